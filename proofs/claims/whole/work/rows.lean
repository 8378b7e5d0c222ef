section
-- ===== PART A: goes FIRST, ahead of the names: the tables' words, and 'selects' of the private methods out of them =====
/-- a private method of a class that the tables say can be made, by its rows of tables_1 -/
def lw_okq (q : MethodName × Nat) : Prop := (q.1.cls ≠ "java/lang/invoke/MethodHandle" ∧ q.1.cls ≠ "java/lang/invoke/VarHandle") ∧ Cond.instantiable q.1.cls q.2 ∈ tables_1 ∧ Cond.privateMethod q.1 ∈ tables_1 ∧ Cond.instanceMethod q.1 ∈ tables_1
theorem lw_p0 : lw_okq (⟨"PairGrammars$Grammar", "depthOfRow", "(LPairGrammars$Row;)I"⟩, 7) := ⟨⟨by decide +kernel, by decide +kernel⟩, List.mem_of_getElem? (i := 27) (by decide +kernel), List.mem_of_getElem? (i := 265) (by decide +kernel), List.mem_of_getElem? (i := 266) (by decide +kernel)⟩
theorem lw_p1 : lw_okq (⟨"PairGrammars$Grammar", "noteUses", "(LPairGrammars$Row;)V"⟩, 7) := ⟨⟨by decide +kernel, by decide +kernel⟩, List.mem_of_getElem? (i := 27) (by decide +kernel), List.mem_of_getElem? (i := 280) (by decide +kernel), List.mem_of_getElem? (i := 281) (by decide +kernel)⟩
theorem lw_p2 : lw_okq (⟨"PairGrammars$Reader", "next", "(IILPairGrammars$Grammar;)I"⟩, 1) := ⟨⟨by decide +kernel, by decide +kernel⟩, List.mem_of_getElem? (i := 102) (by decide +kernel), List.mem_of_getElem? (i := 292) (by decide +kernel), List.mem_of_getElem? (i := 293) (by decide +kernel)⟩
theorem lw_p3 : lw_okq (⟨"PairGrammars$Reader", "startRow", "(ILPairGrammars$Grammar;)I"⟩, 1) := ⟨⟨by decide +kernel, by decide +kernel⟩, List.mem_of_getElem? (i := 102) (by decide +kernel), List.mem_of_getElem? (i := 296) (by decide +kernel), List.mem_of_getElem? (i := 297) (by decide +kernel)⟩
theorem lw_p4 : lw_okq (⟨"PairGrammars$Reader", "grow", "(LPairGrammars$Row;ILPairGrammars$Grammar;I)I"⟩, 1) := ⟨⟨by decide +kernel, by decide +kernel⟩, List.mem_of_getElem? (i := 102) (by decide +kernel), List.mem_of_getElem? (i := 312) (by decide +kernel), List.mem_of_getElem? (i := 313) (by decide +kernel)⟩
theorem lw_p5 : lw_okq (⟨"PairGrammars$Reader", "endRule", "(LPairGrammars$Grammar;)I"⟩, 1) := ⟨⟨by decide +kernel, by decide +kernel⟩, List.mem_of_getElem? (i := 102) (by decide +kernel), List.mem_of_getElem? (i := 331) (by decide +kernel), List.mem_of_getElem? (i := 332) (by decide +kernel)⟩
theorem lw_p6 : lw_okq (⟨"PairGrammars", "accept", "(I)I"⟩, 12) := ⟨⟨by decide +kernel, by decide +kernel⟩, List.mem_of_getElem? (i := 19) (by decide +kernel), List.mem_of_getElem? (i := 363) (by decide +kernel), List.mem_of_getElem? (i := 364) (by decide +kernel)⟩
theorem lw_p7 : lw_okq (⟨"PairGrammars$Pairs", "countAll", "(LPairGrammars$Row;)V"⟩, 4) := ⟨⟨by decide +kernel, by decide +kernel⟩, List.mem_of_getElem? (i := 115) (by decide +kernel), List.mem_of_getElem? (i := 391) (by decide +kernel), List.mem_of_getElem? (i := 392) (by decide +kernel)⟩
theorem lw_p8 : lw_okq (⟨"PairGrammars$Pairs", "keyAt", "(LPairGrammars$Row;I)I"⟩, 4) := ⟨⟨by decide +kernel, by decide +kernel⟩, List.mem_of_getElem? (i := 115) (by decide +kernel), List.mem_of_getElem? (i := 396) (by decide +kernel), List.mem_of_getElem? (i := 397) (by decide +kernel)⟩
theorem lw_p9 : lw_okq (⟨"PairGrammars$Row", "hasPair", "(III)Z"⟩, 2) := ⟨⟨by decide +kernel, by decide +kernel⟩, List.mem_of_getElem? (i := 34) (by decide +kernel), List.mem_of_getElem? (i := 419) (by decide +kernel), List.mem_of_getElem? (i := 420) (by decide +kernel)⟩
theorem lw_p10 : lw_okq (⟨"PairGrammars$Row", "shift", "(II)Z"⟩, 2) := ⟨⟨by decide +kernel, by decide +kernel⟩, List.mem_of_getElem? (i := 34) (by decide +kernel), List.mem_of_getElem? (i := 457) (by decide +kernel), List.mem_of_getElem? (i := 458) (by decide +kernel)⟩
theorem lw_p11 : lw_okq (⟨"PairGrammars$Grammar", "lowestSeldomUsed", "()I"⟩, 7) := ⟨⟨by decide +kernel, by decide +kernel⟩, List.mem_of_getElem? (i := 27) (by decide +kernel), List.mem_of_getElem? (i := 473) (by decide +kernel), List.mem_of_getElem? (i := 474) (by decide +kernel)⟩
theorem lw_p12 : lw_okq (⟨"PairGrammars$Tally", "sumRules", "(LPairGrammars$Grammar;)V"⟩, 4) := ⟨⟨by decide +kernel, by decide +kernel⟩, List.mem_of_getElem? (i := 134) (by decide +kernel), List.mem_of_getElem? (i := 628) (by decide +kernel), List.mem_of_getElem? (i := 629) (by decide +kernel)⟩
theorem lw_p13 : lw_okq (⟨"PairGrammars$Tally", "sumRow", "(LPairGrammars$Row;I)V"⟩, 4) := ⟨⟨by decide +kernel, by decide +kernel⟩, List.mem_of_getElem? (i := 134) (by decide +kernel), List.mem_of_getElem? (i := 634) (by decide +kernel), List.mem_of_getElem? (i := 635) (by decide +kernel)⟩
theorem lw_p14 : lw_okq (⟨"PairGrammars", "isSlot", "(I)Z"⟩, 12) := ⟨⟨by decide +kernel, by decide +kernel⟩, List.mem_of_getElem? (i := 19) (by decide +kernel), List.mem_of_getElem? (i := 657) (by decide +kernel), List.mem_of_getElem? (i := 658) (by decide +kernel)⟩
theorem lw_p15 : lw_okq (⟨"PairGrammars$Walk", "enter", "(I)V"⟩, 3) := ⟨⟨by decide +kernel, by decide +kernel⟩, List.mem_of_getElem? (i := 166) (by decide +kernel), List.mem_of_getElem? (i := 665) (by decide +kernel), List.mem_of_getElem? (i := 666) (by decide +kernel)⟩
def lw_privs_1 : List (MethodName × Nat) := [(⟨"PairGrammars$Grammar", "depthOfRow", "(LPairGrammars$Row;)I"⟩, 7), (⟨"PairGrammars$Grammar", "noteUses", "(LPairGrammars$Row;)V"⟩, 7), (⟨"PairGrammars$Reader", "next", "(IILPairGrammars$Grammar;)I"⟩, 1), (⟨"PairGrammars$Reader", "startRow", "(ILPairGrammars$Grammar;)I"⟩, 1), (⟨"PairGrammars$Reader", "grow", "(LPairGrammars$Row;ILPairGrammars$Grammar;I)I"⟩, 1), (⟨"PairGrammars$Reader", "endRule", "(LPairGrammars$Grammar;)I"⟩, 1), (⟨"PairGrammars", "accept", "(I)I"⟩, 12), (⟨"PairGrammars$Pairs", "countAll", "(LPairGrammars$Row;)V"⟩, 4), (⟨"PairGrammars$Pairs", "keyAt", "(LPairGrammars$Row;I)I"⟩, 4), (⟨"PairGrammars$Row", "hasPair", "(III)Z"⟩, 2), (⟨"PairGrammars$Row", "shift", "(II)Z"⟩, 2), (⟨"PairGrammars$Grammar", "lowestSeldomUsed", "()I"⟩, 7), (⟨"PairGrammars$Tally", "sumRules", "(LPairGrammars$Grammar;)V"⟩, 4), (⟨"PairGrammars$Tally", "sumRow", "(LPairGrammars$Row;I)V"⟩, 4), (⟨"PairGrammars", "isSlot", "(I)Z"⟩, 12), (⟨"PairGrammars$Walk", "enter", "(I)V"⟩, 3)]
theorem lw_r1 : ∀ q ∈ lw_privs_1, lw_okq q := List.forall_mem_cons.mpr ⟨lw_p0, List.forall_mem_cons.mpr ⟨lw_p1, List.forall_mem_cons.mpr ⟨lw_p2, List.forall_mem_cons.mpr ⟨lw_p3, List.forall_mem_cons.mpr ⟨lw_p4, List.forall_mem_cons.mpr ⟨lw_p5, List.forall_mem_cons.mpr ⟨lw_p6, List.forall_mem_cons.mpr ⟨lw_p7, List.forall_mem_cons.mpr ⟨lw_p8, List.forall_mem_cons.mpr ⟨lw_p9, List.forall_mem_cons.mpr ⟨lw_p10, List.forall_mem_cons.mpr ⟨lw_p11, List.forall_mem_cons.mpr ⟨lw_p12, List.forall_mem_cons.mpr ⟨lw_p13, List.forall_mem_cons.mpr ⟨lw_p14, List.forall_mem_cons.mpr ⟨lw_p15, fun _ h => absurd h List.not_mem_nil⟩⟩⟩⟩⟩⟩⟩⟩⟩⟩⟩⟩⟩⟩⟩⟩
theorem lw_p16 : lw_okq (⟨"PairGrammarsModel", "takes", "(I)Z"⟩, 19) := ⟨⟨by decide +kernel, by decide +kernel⟩, List.mem_of_getElem? (i := 723) (by decide +kernel), List.mem_of_getElem? (i := 805) (by decide +kernel), List.mem_of_getElem? (i := 806) (by decide +kernel)⟩
theorem lw_p17 : lw_okq (⟨"PairGrammarsModel", "readsRow", "(II)Z"⟩, 19) := ⟨⟨by decide +kernel, by decide +kernel⟩, List.mem_of_getElem? (i := 723) (by decide +kernel), List.mem_of_getElem? (i := 809) (by decide +kernel), List.mem_of_getElem? (i := 810) (by decide +kernel)⟩
theorem lw_p18 : lw_okq (⟨"PairGrammarsModel", "measures", "()V"⟩, 19) := ⟨⟨by decide +kernel, by decide +kernel⟩, List.mem_of_getElem? (i := 723) (by decide +kernel), List.mem_of_getElem? (i := 827) (by decide +kernel), List.mem_of_getElem? (i := 828) (by decide +kernel)⟩
theorem lw_p19 : lw_okq (⟨"PairGrammarsModel", "rowAt", "(I)I"⟩, 19) := ⟨⟨by decide +kernel, by decide +kernel⟩, List.mem_of_getElem? (i := 723) (by decide +kernel), List.mem_of_getElem? (i := 831) (by decide +kernel), List.mem_of_getElem? (i := 832) (by decide +kernel)⟩
theorem lw_p20 : lw_okq (⟨"PairGrammarsModel", "rowLong", "(I)I"⟩, 19) := ⟨⟨by decide +kernel, by decide +kernel⟩, List.mem_of_getElem? (i := 723) (by decide +kernel), List.mem_of_getElem? (i := 835) (by decide +kernel), List.mem_of_getElem? (i := 836) (by decide +kernel)⟩
theorem lw_p21 : lw_okq (⟨"PairGrammarsModel", "at", "(II)I"⟩, 19) := ⟨⟨by decide +kernel, by decide +kernel⟩, List.mem_of_getElem? (i := 723) (by decide +kernel), List.mem_of_getElem? (i := 839) (by decide +kernel), List.mem_of_getElem? (i := 840) (by decide +kernel)⟩
theorem lw_p22 : lw_okq (⟨"PairGrammarsModel", "letters", "(I)I"⟩, 19) := ⟨⟨by decide +kernel, by decide +kernel⟩, List.mem_of_getElem? (i := 723) (by decide +kernel), List.mem_of_getElem? (i := 843) (by decide +kernel), List.mem_of_getElem? (i := 844) (by decide +kernel)⟩
theorem lw_p23 : lw_okq (⟨"PairGrammarsModel", "fails", "(I)I"⟩, 19) := ⟨⟨by decide +kernel, by decide +kernel⟩, List.mem_of_getElem? (i := 723) (by decide +kernel), List.mem_of_getElem? (i := 853) (by decide +kernel), List.mem_of_getElem? (i := 854) (by decide +kernel)⟩
theorem lw_p24 : lw_okq (⟨"PairGrammarsModel", "changed", "(I)I"⟩, 19) := ⟨⟨by decide +kernel, by decide +kernel⟩, List.mem_of_getElem? (i := 723) (by decide +kernel), List.mem_of_getElem? (i := 857) (by decide +kernel), List.mem_of_getElem? (i := 858) (by decide +kernel)⟩
theorem lw_p25 : lw_okq (⟨"PairGrammarsModel", "folds", "()Z"⟩, 19) := ⟨⟨by decide +kernel, by decide +kernel⟩, List.mem_of_getElem? (i := 723) (by decide +kernel), List.mem_of_getElem? (i := 866) (by decide +kernel), List.mem_of_getElem? (i := 867) (by decide +kernel)⟩
theorem lw_p26 : lw_okq (⟨"PairGrammarsModel", "bestPlace", "()I"⟩, 19) := ⟨⟨by decide +kernel, by decide +kernel⟩, List.mem_of_getElem? (i := 723) (by decide +kernel), List.mem_of_getElem? (i := 870) (by decide +kernel), List.mem_of_getElem? (i := 871) (by decide +kernel)⟩
theorem lw_p27 : lw_okq (⟨"PairGrammarsModel", "pairsFrom", "(I)I"⟩, 19) := ⟨⟨by decide +kernel, by decide +kernel⟩, List.mem_of_getElem? (i := 723) (by decide +kernel), List.mem_of_getElem? (i := 874) (by decide +kernel), List.mem_of_getElem? (i := 875) (by decide +kernel)⟩
theorem lw_p28 : lw_okq (⟨"PairGrammarsModel", "pairs", "(II)I"⟩, 19) := ⟨⟨by decide +kernel, by decide +kernel⟩, List.mem_of_getElem? (i := 723) (by decide +kernel), List.mem_of_getElem? (i := 878) (by decide +kernel), List.mem_of_getElem? (i := 879) (by decide +kernel)⟩
theorem lw_p29 : lw_okq (⟨"PairGrammarsModel", "isRule", "(I)Z"⟩, 19) := ⟨⟨by decide +kernel, by decide +kernel⟩, List.mem_of_getElem? (i := 723) (by decide +kernel), List.mem_of_getElem? (i := 886) (by decide +kernel), List.mem_of_getElem? (i := 887) (by decide +kernel)⟩
theorem lw_p30 : lw_okq (⟨"PairGrammarsModel", "canUnroll", "(I)Z"⟩, 19) := ⟨⟨by decide +kernel, by decide +kernel⟩, List.mem_of_getElem? (i := 723) (by decide +kernel), List.mem_of_getElem? (i := 890) (by decide +kernel), List.mem_of_getElem? (i := 891) (by decide +kernel)⟩
theorem lw_p31 : lw_okq (⟨"PairGrammarsModel", "usedIn", "(II)I"⟩, 19) := ⟨⟨by decide +kernel, by decide +kernel⟩, List.mem_of_getElem? (i := 723) (by decide +kernel), List.mem_of_getElem? (i := 894) (by decide +kernel), List.mem_of_getElem? (i := 895) (by decide +kernel)⟩
def lw_privs_2 : List (MethodName × Nat) := [(⟨"PairGrammarsModel", "takes", "(I)Z"⟩, 19), (⟨"PairGrammarsModel", "readsRow", "(II)Z"⟩, 19), (⟨"PairGrammarsModel", "measures", "()V"⟩, 19), (⟨"PairGrammarsModel", "rowAt", "(I)I"⟩, 19), (⟨"PairGrammarsModel", "rowLong", "(I)I"⟩, 19), (⟨"PairGrammarsModel", "at", "(II)I"⟩, 19), (⟨"PairGrammarsModel", "letters", "(I)I"⟩, 19), (⟨"PairGrammarsModel", "fails", "(I)I"⟩, 19), (⟨"PairGrammarsModel", "changed", "(I)I"⟩, 19), (⟨"PairGrammarsModel", "folds", "()Z"⟩, 19), (⟨"PairGrammarsModel", "bestPlace", "()I"⟩, 19), (⟨"PairGrammarsModel", "pairsFrom", "(I)I"⟩, 19), (⟨"PairGrammarsModel", "pairs", "(II)I"⟩, 19), (⟨"PairGrammarsModel", "isRule", "(I)Z"⟩, 19), (⟨"PairGrammarsModel", "canUnroll", "(I)Z"⟩, 19), (⟨"PairGrammarsModel", "usedIn", "(II)I"⟩, 19)]
theorem lw_r2 : ∀ q ∈ lw_privs_2, lw_okq q := List.forall_mem_cons.mpr ⟨lw_p16, List.forall_mem_cons.mpr ⟨lw_p17, List.forall_mem_cons.mpr ⟨lw_p18, List.forall_mem_cons.mpr ⟨lw_p19, List.forall_mem_cons.mpr ⟨lw_p20, List.forall_mem_cons.mpr ⟨lw_p21, List.forall_mem_cons.mpr ⟨lw_p22, List.forall_mem_cons.mpr ⟨lw_p23, List.forall_mem_cons.mpr ⟨lw_p24, List.forall_mem_cons.mpr ⟨lw_p25, List.forall_mem_cons.mpr ⟨lw_p26, List.forall_mem_cons.mpr ⟨lw_p27, List.forall_mem_cons.mpr ⟨lw_p28, List.forall_mem_cons.mpr ⟨lw_p29, List.forall_mem_cons.mpr ⟨lw_p30, List.forall_mem_cons.mpr ⟨lw_p31, fun _ h => absurd h List.not_mem_nil⟩⟩⟩⟩⟩⟩⟩⟩⟩⟩⟩⟩⟩⟩⟩⟩
theorem lw_p32 : lw_okq (⟨"PairGrammarsModel", "used", "(I)I"⟩, 19) := ⟨⟨by decide +kernel, by decide +kernel⟩, List.mem_of_getElem? (i := 723) (by decide +kernel), List.mem_of_getElem? (i := 898) (by decide +kernel), List.mem_of_getElem? (i := 899) (by decide +kernel)⟩
theorem lw_p33 : lw_okq (⟨"PairGrammarsModel", "unrolls", "(I)V"⟩, 19) := ⟨⟨by decide +kernel, by decide +kernel⟩, List.mem_of_getElem? (i := 723) (by decide +kernel), List.mem_of_getElem? (i := 902) (by decide +kernel), List.mem_of_getElem? (i := 903) (by decide +kernel)⟩
theorem lw_p34 : lw_okq (⟨"PairGrammarsModel", "unrollsIn", "(II)V"⟩, 19) := ⟨⟨by decide +kernel, by decide +kernel⟩, List.mem_of_getElem? (i := 723) (by decide +kernel), List.mem_of_getElem? (i := 906) (by decide +kernel), List.mem_of_getElem? (i := 907) (by decide +kernel)⟩
theorem lw_p35 : lw_okq (⟨"PairGrammarsModel", "prunes", "()I"⟩, 19) := ⟨⟨by decide +kernel, by decide +kernel⟩, List.mem_of_getElem? (i := 723) (by decide +kernel), List.mem_of_getElem? (i := 914) (by decide +kernel), List.mem_of_getElem? (i := 915) (by decide +kernel)⟩
theorem lw_p36 : lw_okq (⟨"PairGrammarsModel", "nextPruned", "()I"⟩, 19) := ⟨⟨by decide +kernel, by decide +kernel⟩, List.mem_of_getElem? (i := 723) (by decide +kernel), List.mem_of_getElem? (i := 918) (by decide +kernel), List.mem_of_getElem? (i := 919) (by decide +kernel)⟩
theorem lw_p37 : lw_okq (⟨"PairGrammarsModel", "wordLong", "()I"⟩, 19) := ⟨⟨by decide +kernel, by decide +kernel⟩, List.mem_of_getElem? (i := 723) (by decide +kernel), List.mem_of_getElem? (i := 926) (by decide +kernel), List.mem_of_getElem? (i := 927) (by decide +kernel)⟩
theorem lw_p38 : lw_okq (⟨"PairGrammarsModel", "opensTo", "(I)Z"⟩, 19) := ⟨⟨by decide +kernel, by decide +kernel⟩, List.mem_of_getElem? (i := 723) (by decide +kernel), List.mem_of_getElem? (i := 931) (by decide +kernel), List.mem_of_getElem? (i := 932) (by decide +kernel)⟩
theorem lw_p39 : lw_okq (⟨"PairGrammarsModel", "seeks", "(I)V"⟩, 19) := ⟨⟨by decide +kernel, by decide +kernel⟩, List.mem_of_getElem? (i := 723) (by decide +kernel), List.mem_of_getElem? (i := 935) (by decide +kernel), List.mem_of_getElem? (i := 936) (by decide +kernel)⟩
theorem lw_p40 : lw_okq (⟨"PairGrammarsModel", "opensAt", "(I)V"⟩, 19) := ⟨⟨by decide +kernel, by decide +kernel⟩, List.mem_of_getElem? (i := 723) (by decide +kernel), List.mem_of_getElem? (i := 939) (by decide +kernel), List.mem_of_getElem? (i := 940) (by decide +kernel)⟩
theorem lw_p41 : lw_okq (⟨"PairGrammarsModel", "isFirst", "(I)Z"⟩, 19) := ⟨⟨by decide +kernel, by decide +kernel⟩, List.mem_of_getElem? (i := 723) (by decide +kernel), List.mem_of_getElem? (i := 947) (by decide +kernel), List.mem_of_getElem? (i := 948) (by decide +kernel)⟩
theorem lw_p42 : lw_okq (⟨"PairGrammarsModel", "digs", "()V"⟩, 19) := ⟨⟨by decide +kernel, by decide +kernel⟩, List.mem_of_getElem? (i := 723) (by decide +kernel), List.mem_of_getElem? (i := 967) (by decide +kernel), List.mem_of_getElem? (i := 968) (by decide +kernel)⟩
theorem lw_p43 : lw_okq (⟨"PairGrammarsModel", "size", "()I"⟩, 19) := ⟨⟨by decide +kernel, by decide +kernel⟩, List.mem_of_getElem? (i := 723) (by decide +kernel), List.mem_of_getElem? (i := 975) (by decide +kernel), List.mem_of_getElem? (i := 976) (by decide +kernel)⟩
theorem lw_p44 : lw_okq (⟨"PairGrammarsModel", "deepest", "()I"⟩, 19) := ⟨⟨by decide +kernel, by decide +kernel⟩, List.mem_of_getElem? (i := 723) (by decide +kernel), List.mem_of_getElem? (i := 979) (by decide +kernel), List.mem_of_getElem? (i := 980) (by decide +kernel)⟩
theorem lw_p45 : lw_okq (⟨"PairGrammarsModel", "notUsed", "()I"⟩, 19) := ⟨⟨by decide +kernel, by decide +kernel⟩, List.mem_of_getElem? (i := 723) (by decide +kernel), List.mem_of_getElem? (i := 983) (by decide +kernel), List.mem_of_getElem? (i := 984) (by decide +kernel)⟩
theorem lw_p46 : lw_okq (⟨"PairGrammarsModel", "isSymbol", "(I)Z"⟩, 19) := ⟨⟨by decide +kernel, by decide +kernel⟩, List.mem_of_getElem? (i := 723) (by decide +kernel), List.mem_of_getElem? (i := 991) (by decide +kernel), List.mem_of_getElem? (i := 992) (by decide +kernel)⟩
theorem lw_p47 : lw_okq (⟨"PairGrammarsModel", "tellsWord", "([II[I)I"⟩, 19) := ⟨⟨by decide +kernel, by decide +kernel⟩, List.mem_of_getElem? (i := 723) (by decide +kernel), List.mem_of_getElem? (i := 1018) (by decide +kernel), List.mem_of_getElem? (i := 1019) (by decide +kernel)⟩
def lw_privs_3 : List (MethodName × Nat) := [(⟨"PairGrammarsModel", "used", "(I)I"⟩, 19), (⟨"PairGrammarsModel", "unrolls", "(I)V"⟩, 19), (⟨"PairGrammarsModel", "unrollsIn", "(II)V"⟩, 19), (⟨"PairGrammarsModel", "prunes", "()I"⟩, 19), (⟨"PairGrammarsModel", "nextPruned", "()I"⟩, 19), (⟨"PairGrammarsModel", "wordLong", "()I"⟩, 19), (⟨"PairGrammarsModel", "opensTo", "(I)Z"⟩, 19), (⟨"PairGrammarsModel", "seeks", "(I)V"⟩, 19), (⟨"PairGrammarsModel", "opensAt", "(I)V"⟩, 19), (⟨"PairGrammarsModel", "isFirst", "(I)Z"⟩, 19), (⟨"PairGrammarsModel", "digs", "()V"⟩, 19), (⟨"PairGrammarsModel", "size", "()I"⟩, 19), (⟨"PairGrammarsModel", "deepest", "()I"⟩, 19), (⟨"PairGrammarsModel", "notUsed", "()I"⟩, 19), (⟨"PairGrammarsModel", "isSymbol", "(I)Z"⟩, 19), (⟨"PairGrammarsModel", "tellsWord", "([II[I)I"⟩, 19)]
theorem lw_r3 : ∀ q ∈ lw_privs_3, lw_okq q := List.forall_mem_cons.mpr ⟨lw_p32, List.forall_mem_cons.mpr ⟨lw_p33, List.forall_mem_cons.mpr ⟨lw_p34, List.forall_mem_cons.mpr ⟨lw_p35, List.forall_mem_cons.mpr ⟨lw_p36, List.forall_mem_cons.mpr ⟨lw_p37, List.forall_mem_cons.mpr ⟨lw_p38, List.forall_mem_cons.mpr ⟨lw_p39, List.forall_mem_cons.mpr ⟨lw_p40, List.forall_mem_cons.mpr ⟨lw_p41, List.forall_mem_cons.mpr ⟨lw_p42, List.forall_mem_cons.mpr ⟨lw_p43, List.forall_mem_cons.mpr ⟨lw_p44, List.forall_mem_cons.mpr ⟨lw_p45, List.forall_mem_cons.mpr ⟨lw_p46, List.forall_mem_cons.mpr ⟨lw_p47, fun _ h => absurd h List.not_mem_nil⟩⟩⟩⟩⟩⟩⟩⟩⟩⟩⟩⟩⟩⟩⟩⟩
def lw_privs : List (MethodName × Nat) := lw_privs_1 ++ (lw_privs_2 ++ (lw_privs_3))
def lw_tbl : List Cond := k2_sels lw_privs ++ tables_1
theorem lw_privs_ok : ∀ q ∈ lw_privs, lw_okq q := by
  show ∀ q ∈ lw_privs_1 ++ (lw_privs_2 ++ (lw_privs_3)), lw_okq q
  exact List.forall_mem_append.mpr ⟨lw_r1, List.forall_mem_append.mpr ⟨lw_r2, lw_r3⟩⟩
/-- the streams that the claim lets the run draw from -/
abbrev lw_cs : List Choice := [Jvm.Choice.named "NaN.bits"]
theorem lw_bits : nanBits ∈ lw_cs := by first | decide | exact List.mem_cons_self | simp [lw_cs, nanBits]
def RX0 : String := "PairGrammars$Grammar"
def TX0 : u_T := fun k => match k with
  | 0 => ("PairGrammars$Grammar", "rows", "[LPairGrammars$Row;", true)
  | 1 => ("PairGrammars$Grammar", "main", "LPairGrammars$Row;", true)
  | 2 => ("PairGrammars$Grammar", "rules", "I", false)
  | 3 => ("PairGrammars$Grammar", "letters", "[I", true)
  | 4 => ("PairGrammars$Grammar", "depths", "[I", true)
  | 5 => ("PairGrammars$Grammar", "uses", "[I", true)
  | _ => ("PairGrammars$Grammar", "wordLetters", "I", false)
def tyX0 : Nat → FieldType := fun k => match k with
  | 0 => .array (.object "PairGrammars$Row")
  | 1 => .object "PairGrammars$Row"
  | 2 => .int
  | 3 => .array .int
  | 4 => .array .int
  | 5 => .array .int
  | _ => .int
abbrev wsX00 : List Cond := u_ws RX0 TX0 7
theorem nmX0 : ∀ a, a < 7 → ∀ b, b < 7 → a ≠ b → (TX0 a).2.1 ≠ (TX0 b).2.1 := by decide +kernel
theorem tyX0_ok : ∀ k, k < 7 → parseFieldDescriptor (TX0 k).2.2.1 = some (tyX0 k) := by decide +kernel
abbrev cX0_init : ByteArray := prog_2_method_1_code
def yX0_init : MethodName := ⟨RX0, "<init>", "()V"⟩
abbrev cX0_clear : ByteArray := prog_2_method_2_code
def yX0_clear : MethodName := ⟨RX0, "clear", "()V"⟩
abbrev cX0_copy : ByteArray := prog_2_method_3_code
def yX0_copy : MethodName := ⟨RX0, "copy", "(LPairGrammars$Grammar;)V"⟩
abbrev cX0_ruleCount : ByteArray := prog_2_method_4_code
def yX0_ruleCount : MethodName := ⟨RX0, "ruleCount", "()I"⟩
abbrev cX0_hasRule : ByteArray := prog_2_method_5_code
def yX0_hasRule : MethodName := ⟨RX0, "hasRule", "(I)Z"⟩
abbrev cX0_hasSymbol : ByteArray := prog_2_method_6_code
def yX0_hasSymbol : MethodName := ⟨RX0, "hasSymbol", "(I)Z"⟩
abbrev cX0_isRule : ByteArray := prog_2_method_7_code
def yX0_isRule : MethodName := ⟨RX0, "isRule", "(I)Z"⟩
abbrev cX0_hasPlace : ByteArray := prog_2_method_8_code
def yX0_hasPlace : MethodName := ⟨RX0, "hasPlace", "(I)Z"⟩
abbrev cX0_mainRow : ByteArray := prog_2_method_9_code
def yX0_mainRow : MethodName := ⟨RX0, "mainRow", "()LPairGrammars$Row;"⟩
abbrev cX0_ruleRow : ByteArray := prog_2_method_10_code
def yX0_ruleRow : MethodName := ⟨RX0, "ruleRow", "(I)LPairGrammars$Row;"⟩
abbrev cX0_mainSymbol : ByteArray := prog_2_method_11_code
def yX0_mainSymbol : MethodName := ⟨RX0, "mainSymbol", "(I)I"⟩
abbrev cX0_wordLetters : ByteArray := prog_2_method_12_code
def yX0_wordLetters : MethodName := ⟨RX0, "wordLetters", "()I"⟩
abbrev cX0_lettersOfRule : ByteArray := prog_2_method_13_code
def yX0_lettersOfRule : MethodName := ⟨RX0, "lettersOfRule", "(I)I"⟩
abbrev cX0_depthOfRule : ByteArray := prog_2_method_14_code
def yX0_depthOfRule : MethodName := ⟨RX0, "depthOfRule", "(I)I"⟩
abbrev cX0_usesOf : ByteArray := prog_2_method_15_code
def yX0_usesOf : MethodName := ⟨RX0, "usesOf", "(I)I"⟩
abbrev cX0_lettersOfSymbol : ByteArray := prog_2_method_16_code
def yX0_lettersOfSymbol : MethodName := ⟨RX0, "lettersOfSymbol", "(I)I"⟩
abbrev cX0_totalSize : ByteArray := prog_2_method_17_code
def yX0_totalSize : MethodName := ⟨RX0, "totalSize", "()I"⟩
abbrev cX0_deepest : ByteArray := prog_2_method_18_code
def yX0_deepest : MethodName := ⟨RX0, "deepest", "()I"⟩
abbrev cX0_unusedRules : ByteArray := prog_2_method_19_code
def yX0_unusedRules : MethodName := ⟨RX0, "unusedRules", "()I"⟩
abbrev cX0_tellsTooMuch : ByteArray := prog_2_method_20_code
def yX0_tellsTooMuch : MethodName := ⟨RX0, "tellsTooMuch", "()Z"⟩
abbrev cX0_measure : ByteArray := prog_2_method_21_code
def yX0_measure : MethodName := ⟨RX0, "measure", "()V"⟩
abbrev cX0_depthOfRow : ByteArray := prog_2_method_22_code
def yX0_depthOfRow : MethodName := ⟨RX0, "depthOfRow", "(LPairGrammars$Row;)I"⟩
abbrev cX0_noteUses : ByteArray := prog_2_method_23_code
def yX0_noteUses : MethodName := ⟨RX0, "noteUses", "(LPairGrammars$Row;)V"⟩
abbrev cX0_lettersAhead : ByteArray := prog_2_method_24_code
def yX0_lettersAhead : MethodName := ⟨RX0, "lettersAhead", "(LPairGrammars$Row;I)I"⟩
abbrev cX0_positionOf : ByteArray := prog_2_method_25_code
def yX0_positionOf : MethodName := ⟨RX0, "positionOf", "(LPairGrammars$Row;I)I"⟩
abbrev cX0_positionInMain : ByteArray := prog_2_method_26_code
def yX0_positionInMain : MethodName := ⟨RX0, "positionInMain", "(I)I"⟩
abbrev cX0_isBoundary : ByteArray := prog_2_method_27_code
def yX0_isBoundary : MethodName := ⟨RX0, "isBoundary", "(I)Z"⟩
abbrev cX0_openTo : ByteArray := prog_2_method_28_code
def yX0_openTo : MethodName := ⟨RX0, "openTo", "(I)I"⟩
abbrev cX0_setInMain : ByteArray := prog_2_method_29_code
def yX0_setInMain : MethodName := ⟨RX0, "setInMain", "(II)V"⟩
abbrev cX0_putIntoMain : ByteArray := prog_2_method_30_code
def yX0_putIntoMain : MethodName := ⟨RX0, "putIntoMain", "(II)Z"⟩
abbrev cX0_takeFromMain : ByteArray := prog_2_method_31_code
def yX0_takeFromMain : MethodName := ⟨RX0, "takeFromMain", "(I)V"⟩
abbrev cX0_addRule : ByteArray := prog_2_method_32_code
def yX0_addRule : MethodName := ⟨RX0, "addRule", "()LPairGrammars$Row;"⟩
abbrev cX0_foldUpTo : ByteArray := prog_2_method_33_code
def yX0_foldUpTo : MethodName := ⟨RX0, "foldUpTo", "(ILPairGrammars$Pairs;)I"⟩
abbrev cX0_canUnroll : ByteArray := prog_2_method_34_code
def yX0_canUnroll : MethodName := ⟨RX0, "canUnroll", "(I)Z"⟩
abbrev cX0_unrollRule : ByteArray := prog_2_method_35_code
def yX0_unrollRule : MethodName := ⟨RX0, "unrollRule", "(I)V"⟩
abbrev cX0_unrollSeldomUsed : ByteArray := prog_2_method_36_code
def yX0_unrollSeldomUsed : MethodName := ⟨RX0, "unrollSeldomUsed", "()I"⟩
abbrev cX0_lowestSeldomUsed : ByteArray := prog_2_method_37_code
def yX0_lowestSeldomUsed : MethodName := ⟨RX0, "lowestSeldomUsed", "()I"⟩
def RX1 : String := "PairGrammars$History"
def TX1 : u_T := fun k => match k with
  | 0 => ("PairGrammars$History", "states", "[LPairGrammars$Grammar;", true)
  | 1 => ("PairGrammars$History", "next", "I", false)
  | _ => ("PairGrammars$History", "kept", "I", false)
def tyX1 : Nat → FieldType := fun k => match k with
  | 0 => .array (.object "PairGrammars$Grammar")
  | 1 => .int
  | _ => .int
abbrev wsX10 : List Cond := u_ws RX1 TX1 3
theorem nmX1 : ∀ a, a < 3 → ∀ b, b < 3 → a ≠ b → (TX1 a).2.1 ≠ (TX1 b).2.1 := by decide +kernel
theorem tyX1_ok : ∀ k, k < 3 → parseFieldDescriptor (TX1 k).2.2.1 = some (tyX1 k) := by decide +kernel
abbrev cX1_init : ByteArray := prog_3_method_1_code
def yX1_init : MethodName := ⟨RX1, "<init>", "()V"⟩
abbrev cX1_size : ByteArray := prog_3_method_2_code
def yX1_size : MethodName := ⟨RX1, "size", "()I"⟩
abbrev cX1_record : ByteArray := prog_3_method_3_code
def yX1_record : MethodName := ⟨RX1, "record", "(LPairGrammars$Grammar;)V"⟩
abbrev cX1_takeBack : ByteArray := prog_3_method_4_code
def yX1_takeBack : MethodName := ⟨RX1, "takeBack", "(LPairGrammars$Grammar;)V"⟩
def RX2 : String := "PairGrammars$Pad"
def TX2 : u_T := fun k => match k with
  | 0 => ("PairGrammars$Pad", "codes", "[I", true)
  | _ => ("PairGrammars$Pad", "length", "I", false)
def tyX2 : Nat → FieldType := fun k => match k with
  | 0 => .array .int
  | _ => .int
abbrev wsX20 : List Cond := u_ws RX2 TX2 2
theorem nmX2 : ∀ a, a < 2 → ∀ b, b < 2 → a ≠ b → (TX2 a).2.1 ≠ (TX2 b).2.1 := by decide +kernel
theorem tyX2_ok : ∀ k, k < 2 → parseFieldDescriptor (TX2 k).2.2.1 = some (tyX2 k) := by decide +kernel
abbrev cX2_init : ByteArray := prog_4_method_1_code
def yX2_init : MethodName := ⟨RX2, "<init>", "()V"⟩
abbrev cX2_size : ByteArray := prog_4_method_2_code
def yX2_size : MethodName := ⟨RX2, "size", "()I"⟩
abbrev cX2_at : ByteArray := prog_4_method_3_code
def yX2_at : MethodName := ⟨RX2, "at", "(I)I"⟩
abbrev cX2_add : ByteArray := prog_4_method_4_code
def yX2_add : MethodName := ⟨RX2, "add", "(I)V"⟩
abbrev cX2_clear : ByteArray := prog_4_method_5_code
def yX2_clear : MethodName := ⟨RX2, "clear", "()V"⟩
def RX3 : String := "PairGrammars$Pairs"
def TX3 : u_T := fun k => match k with
  | 0 => ("PairGrammars$Pairs", "times", "[I", true)
  | 1 => ("PairGrammars$Pairs", "bestFirst", "I", false)
  | 2 => ("PairGrammars$Pairs", "bestSecond", "I", false)
  | _ => ("PairGrammars$Pairs", "bestTimes", "I", false)
def tyX3 : Nat → FieldType := fun k => match k with
  | 0 => .array .int
  | 1 => .int
  | 2 => .int
  | _ => .int
abbrev wsX30 : List Cond := u_ws RX3 TX3 4
theorem nmX3 : ∀ a, a < 4 → ∀ b, b < 4 → a ≠ b → (TX3 a).2.1 ≠ (TX3 b).2.1 := by decide +kernel
theorem tyX3_ok : ∀ k, k < 4 → parseFieldDescriptor (TX3 k).2.2.1 = some (tyX3 k) := by decide +kernel
abbrev cX3_init : ByteArray := prog_5_method_1_code
def yX3_init : MethodName := ⟨RX3, "<init>", "()V"⟩
abbrev cX3_bestFirst : ByteArray := prog_5_method_2_code
def yX3_bestFirst : MethodName := ⟨RX3, "bestFirst", "()I"⟩
abbrev cX3_bestSecond : ByteArray := prog_5_method_3_code
def yX3_bestSecond : MethodName := ⟨RX3, "bestSecond", "()I"⟩
abbrev cX3_bestTimes : ByteArray := prog_5_method_4_code
def yX3_bestTimes : MethodName := ⟨RX3, "bestTimes", "()I"⟩
abbrev cX3_findBest : ByteArray := prog_5_method_5_code
def yX3_findBest : MethodName := ⟨RX3, "findBest", "(LPairGrammars$Row;)Z"⟩
abbrev cX3_countAll : ByteArray := prog_5_method_6_code
def yX3_countAll : MethodName := ⟨RX3, "countAll", "(LPairGrammars$Row;)V"⟩
abbrev cX3_keyAt : ByteArray := prog_5_method_7_code
def yX3_keyAt : MethodName := ⟨RX3, "keyAt", "(LPairGrammars$Row;I)I"⟩
def RX4 : String := "PairGrammars$Path"
def TX4 : u_T := fun k => match k with
  | 0 => ("PairGrammars$Path", "foundLetter", "I", false)
  | _ => ("PairGrammars$Path", "rulesPassed", "I", false)
def tyX4 : Nat → FieldType := fun k => match k with
  | 0 => .int
  | _ => .int
abbrev wsX40 : List Cond := u_ws RX4 TX4 2
theorem nmX4 : ∀ a, a < 2 → ∀ b, b < 2 → a ≠ b → (TX4 a).2.1 ≠ (TX4 b).2.1 := by decide +kernel
theorem tyX4_ok : ∀ k, k < 2 → parseFieldDescriptor (TX4 k).2.2.1 = some (tyX4 k) := by decide +kernel
abbrev cX4_init : ByteArray := prog_6_method_1_code
def yX4_init : MethodName := ⟨RX4, "<init>", "()V"⟩
abbrev cX4_foundLetter : ByteArray := prog_6_method_2_code
def yX4_foundLetter : MethodName := ⟨RX4, "foundLetter", "()I"⟩
abbrev cX4_rulesPassed : ByteArray := prog_6_method_3_code
def yX4_rulesPassed : MethodName := ⟨RX4, "rulesPassed", "()I"⟩
abbrev cX4_follow : ByteArray := prog_6_method_4_code
def yX4_follow : MethodName := ⟨RX4, "follow", "(LPairGrammars$Grammar;I)V"⟩
def RX5 : String := "PairGrammars$Reader"
def TX5 : u_T := fun k => match k with
  | _ => ("PairGrammars$Reader", "rule", "LPairGrammars$Row;", true)
def tyX5 : Nat → FieldType := fun k => match k with
  | _ => .object "PairGrammars$Row"
abbrev wsX50 : List Cond := u_ws RX5 TX5 1
theorem nmX5 : ∀ a, a < 1 → ∀ b, b < 1 → a ≠ b → (TX5 a).2.1 ≠ (TX5 b).2.1 := by decide +kernel
theorem tyX5_ok : ∀ k, k < 1 → parseFieldDescriptor (TX5 k).2.2.1 = some (tyX5 k) := by decide +kernel
abbrev cX5_init : ByteArray := prog_7_method_1_code
def yX5_init : MethodName := ⟨RX5, "<init>", "()V"⟩
abbrev cX5_read : ByteArray := prog_7_method_2_code
def yX5_read : MethodName := ⟨RX5, "read", "(LPairGrammars$Pad;LPairGrammars$Grammar;)I"⟩
abbrev cX5_next : ByteArray := prog_7_method_3_code
def yX5_next : MethodName := ⟨RX5, "next", "(IILPairGrammars$Grammar;)I"⟩
abbrev cX5_startRow : ByteArray := prog_7_method_4_code
def yX5_startRow : MethodName := ⟨RX5, "startRow", "(ILPairGrammars$Grammar;)I"⟩
abbrev cX5_endRule : ByteArray := prog_7_method_5_code
def yX5_endRule : MethodName := ⟨RX5, "endRule", "(LPairGrammars$Grammar;)I"⟩
abbrev cX5_grow : ByteArray := prog_7_method_6_code
def yX5_grow : MethodName := ⟨RX5, "grow", "(LPairGrammars$Row;ILPairGrammars$Grammar;I)I"⟩
abbrev cX5_symbolOf : ByteArray := prog_7_method_7_code
def yX5_symbolOf : MethodName := ⟨RX5, "symbolOf", "(I)I"⟩
def RX6 : String := "PairGrammars$Row"
def TX6 : u_T := fun k => match k with
  | 0 => ("PairGrammars$Row", "symbols", "[I", true)
  | _ => ("PairGrammars$Row", "length", "I", false)
def tyX6 : Nat → FieldType := fun k => match k with
  | 0 => .array .int
  | _ => .int
abbrev wsX60 : List Cond := u_ws RX6 TX6 2
theorem nmX6 : ∀ a, a < 2 → ∀ b, b < 2 → a ≠ b → (TX6 a).2.1 ≠ (TX6 b).2.1 := by decide +kernel
theorem tyX6_ok : ∀ k, k < 2 → parseFieldDescriptor (TX6 k).2.2.1 = some (tyX6 k) := by decide +kernel
abbrev cX6_init : ByteArray := prog_8_method_1_code
def yX6_init : MethodName := ⟨RX6, "<init>", "()V"⟩
abbrev cX6_size : ByteArray := prog_8_method_2_code
def yX6_size : MethodName := ⟨RX6, "size", "()I"⟩
abbrev cX6_has : ByteArray := prog_8_method_3_code
def yX6_has : MethodName := ⟨RX6, "has", "(I)Z"⟩
abbrev cX6_at : ByteArray := prog_8_method_4_code
def yX6_at : MethodName := ⟨RX6, "at", "(I)I"⟩
abbrev cX6_set : ByteArray := prog_8_method_5_code
def yX6_set : MethodName := ⟨RX6, "set", "(II)V"⟩
abbrev cX6_clear : ByteArray := prog_8_method_6_code
def yX6_clear : MethodName := ⟨RX6, "clear", "()V"⟩
abbrev cX6_copy : ByteArray := prog_8_method_7_code
def yX6_copy : MethodName := ⟨RX6, "copy", "(LPairGrammars$Row;)V"⟩
abbrev cX6_add : ByteArray := prog_8_method_8_code
def yX6_add : MethodName := ⟨RX6, "add", "(I)Z"⟩
abbrev cX6_putIn : ByteArray := prog_8_method_9_code
def yX6_putIn : MethodName := ⟨RX6, "putIn", "(II)Z"⟩
abbrev cX6_takeOut : ByteArray := prog_8_method_10_code
def yX6_takeOut : MethodName := ⟨RX6, "takeOut", "(I)V"⟩
abbrev cX6_open : ByteArray := prog_8_method_11_code
def yX6_open : MethodName := ⟨RX6, "open", "(ILPairGrammars$Row;)Z"⟩
abbrev cX6_shift : ByteArray := prog_8_method_12_code
def yX6_shift : MethodName := ⟨RX6, "shift", "(II)Z"⟩
abbrev cX6_hasPair : ByteArray := prog_8_method_13_code
def yX6_hasPair : MethodName := ⟨RX6, "hasPair", "(III)Z"⟩
abbrev cX6_timesOfPair : ByteArray := prog_8_method_14_code
def yX6_timesOfPair : MethodName := ⟨RX6, "timesOfPair", "(II)I"⟩
abbrev cX6_foldPair : ByteArray := prog_8_method_15_code
def yX6_foldPair : MethodName := ⟨RX6, "foldPair", "(III)V"⟩
abbrev cX6_canUnroll : ByteArray := prog_8_method_16_code
def yX6_canUnroll : MethodName := ⟨RX6, "canUnroll", "(ILPairGrammars$Row;)Z"⟩
abbrev cX6_unrollSymbol : ByteArray := prog_8_method_17_code
def yX6_unrollSymbol : MethodName := ⟨RX6, "unrollSymbol", "(ILPairGrammars$Row;)V"⟩
def RX7 : String := "PairGrammars$Tally"
def TX7 : u_T := fun k => match k with
  | 0 => ("PairGrammars$Tally", "factors", "[I", true)
  | 1 => ("PairGrammars$Tally", "sums", "[I", true)
  | 2 => ("PairGrammars$Tally", "factor", "I", false)
  | _ => ("PairGrammars$Tally", "sum", "I", false)
def tyX7 : Nat → FieldType := fun k => match k with
  | 0 => .array .int
  | 1 => .array .int
  | 2 => .int
  | _ => .int
abbrev wsX70 : List Cond := u_ws RX7 TX7 4
theorem nmX7 : ∀ a, a < 4 → ∀ b, b < 4 → a ≠ b → (TX7 a).2.1 ≠ (TX7 b).2.1 := by decide +kernel
theorem tyX7_ok : ∀ k, k < 4 → parseFieldDescriptor (TX7 k).2.2.1 = some (tyX7 k) := by decide +kernel
abbrev cX7_init : ByteArray := prog_9_method_1_code
def yX7_init : MethodName := ⟨RX7, "<init>", "()V"⟩
abbrev cX7_markOfWord : ByteArray := prog_9_method_2_code
def yX7_markOfWord : MethodName := ⟨RX7, "markOfWord", "(LPairGrammars$Grammar;)I"⟩
abbrev cX7_timesOfLetter : ByteArray := prog_9_method_3_code
def yX7_timesOfLetter : MethodName := ⟨RX7, "timesOfLetter", "(LPairGrammars$Grammar;I)I"⟩
abbrev cX7_sumRules : ByteArray := prog_9_method_4_code
def yX7_sumRules : MethodName := ⟨RX7, "sumRules", "(LPairGrammars$Grammar;)V"⟩
abbrev cX7_sumRow : ByteArray := prog_9_method_5_code
def yX7_sumRow : MethodName := ⟨RX7, "sumRow", "(LPairGrammars$Row;I)V"⟩
def RX8 : String := "PairGrammars$Walk"
def TX8 : u_T := fun k => match k with
  | 0 => ("PairGrammars$Walk", "rows", "[I", true)
  | 1 => ("PairGrammars$Walk", "positions", "[I", true)
  | _ => ("PairGrammars$Walk", "open", "I", false)
def tyX8 : Nat → FieldType := fun k => match k with
  | 0 => .array .int
  | 1 => .array .int
  | _ => .int
abbrev wsX80 : List Cond := u_ws RX8 TX8 3
theorem nmX8 : ∀ a, a < 3 → ∀ b, b < 3 → a ≠ b → (TX8 a).2.1 ≠ (TX8 b).2.1 := by decide +kernel
theorem tyX8_ok : ∀ k, k < 3 → parseFieldDescriptor (TX8 k).2.2.1 = some (tyX8 k) := by decide +kernel
abbrev cX8_init : ByteArray := prog_10_method_1_code
def yX8_init : MethodName := ⟨RX8, "<init>", "()V"⟩
abbrev cX8_start : ByteArray := prog_10_method_2_code
def yX8_start : MethodName := ⟨RX8, "start", "()V"⟩
abbrev cX8_next : ByteArray := prog_10_method_3_code
def yX8_next : MethodName := ⟨RX8, "next", "(LPairGrammars$Grammar;)I"⟩
abbrev cX8_enter : ByteArray := prog_10_method_4_code
def yX8_enter : MethodName := ⟨RX8, "enter", "(I)V"⟩
def RX9 : String := "PairGrammars"
def TX9 : u_T := fun k => match k with
  | 0 => ("PairGrammars", "now", "LPairGrammars$Grammar;", true)
  | 1 => ("PairGrammars", "trial", "LPairGrammars$Grammar;", true)
  | 2 => ("PairGrammars", "pad", "LPairGrammars$Pad;", true)
  | 3 => ("PairGrammars", "history", "LPairGrammars$History;", true)
  | 4 => ("PairGrammars", "slots", "[LPairGrammars$Grammar;", true)
  | 5 => ("PairGrammars", "saved", "[Z", true)
  | 6 => ("PairGrammars", "reader", "LPairGrammars$Reader;", true)
  | 7 => ("PairGrammars", "pairs", "LPairGrammars$Pairs;", true)
  | 8 => ("PairGrammars", "tally", "LPairGrammars$Tally;", true)
  | 9 => ("PairGrammars", "path", "LPairGrammars$Path;", true)
  | 10 => ("PairGrammars", "walk", "LPairGrammars$Walk;", true)
  | _ => ("PairGrammars", "otherWalk", "LPairGrammars$Walk;", true)
def tyX9 : Nat → FieldType := fun k => match k with
  | 0 => .object "PairGrammars$Grammar"
  | 1 => .object "PairGrammars$Grammar"
  | 2 => .object "PairGrammars$Pad"
  | 3 => .object "PairGrammars$History"
  | 4 => .array (.object "PairGrammars$Grammar")
  | 5 => .array .boolean
  | 6 => .object "PairGrammars$Reader"
  | 7 => .object "PairGrammars$Pairs"
  | 8 => .object "PairGrammars$Tally"
  | 9 => .object "PairGrammars$Path"
  | 10 => .object "PairGrammars$Walk"
  | _ => .object "PairGrammars$Walk"
abbrev wsX90 : List Cond := u_ws RX9 TX9 12
theorem nmX9 : ∀ a, a < 12 → ∀ b, b < 12 → a ≠ b → (TX9 a).2.1 ≠ (TX9 b).2.1 := by decide +kernel
theorem tyX9_ok : ∀ k, k < 12 → parseFieldDescriptor (TX9 k).2.2.1 = some (tyX9 k) := by decide +kernel
abbrev cX9_init : ByteArray := prog_1_method_1_code
def yX9_init : MethodName := ⟨RX9, "<init>", "()V"⟩
abbrev cX9_tell : ByteArray := prog_1_method_2_code
def yX9_tell : MethodName := ⟨RX9, "tell", "()I"⟩
abbrev cX9_fold : ByteArray := prog_1_method_3_code
def yX9_fold : MethodName := ⟨RX9, "fold", "(I)I"⟩
abbrev cX9_unroll : ByteArray := prog_1_method_4_code
def yX9_unroll : MethodName := ⟨RX9, "unroll", "(I)I"⟩
abbrev cX9_prune : ByteArray := prog_1_method_5_code
def yX9_prune : MethodName := ⟨RX9, "prune", "()I"⟩
abbrev cX9_edit : ByteArray := prog_1_method_6_code
def yX9_edit : MethodName := ⟨RX9, "edit", "(II)I"⟩
abbrev cX9_insert : ByteArray := prog_1_method_7_code
def yX9_insert : MethodName := ⟨RX9, "insert", "(II)I"⟩
abbrev cX9_delete : ByteArray := prog_1_method_8_code
def yX9_delete : MethodName := ⟨RX9, "delete", "(I)I"⟩
abbrev cX9_letter : ByteArray := prog_1_method_9_code
def yX9_letter : MethodName := ⟨RX9, "letter", "(I)I"⟩
abbrev cX9_symbol : ByteArray := prog_1_method_10_code
def yX9_symbol : MethodName := ⟨RX9, "symbol", "(II)I"⟩
abbrev cX9_ofRule : ByteArray := prog_1_method_11_code
def yX9_ofRule : MethodName := ⟨RX9, "ofRule", "(II)I"⟩
abbrev cX9_count : ByteArray := prog_1_method_12_code
def yX9_count : MethodName := ⟨RX9, "count", "(I)I"⟩
abbrev cX9_pair : ByteArray := prog_1_method_13_code
def yX9_pair : MethodName := ⟨RX9, "pair", "(II)I"⟩
abbrev cX9_best : ByteArray := prog_1_method_14_code
def yX9_best : MethodName := ⟨RX9, "best", "(I)I"⟩
abbrev cX9_ratio : ByteArray := prog_1_method_15_code
def yX9_ratio : MethodName := ⟨RX9, "ratio", "()J"⟩
abbrev cX9_share : ByteArray := prog_1_method_16_code
def yX9_share : MethodName := ⟨RX9, "share", "(I)I"⟩
abbrev cX9_mark : ByteArray := prog_1_method_17_code
def yX9_mark : MethodName := ⟨RX9, "mark", "()I"⟩
abbrev cX9_couldBe : ByteArray := prog_1_method_18_code
def yX9_couldBe : MethodName := ⟨RX9, "couldBe", "()I"⟩
abbrev cX9_unlike : ByteArray := prog_1_method_19_code
def yX9_unlike : MethodName := ⟨RX9, "unlike", "(I)I"⟩
abbrev cX9_opens : ByteArray := prog_1_method_20_code
def yX9_opens : MethodName := ⟨RX9, "opens", "(I)I"⟩
abbrev cX9_put : ByteArray := prog_1_method_21_code
def yX9_put : MethodName := ⟨RX9, "put", "(J)I"⟩
abbrev cX9_wipe : ByteArray := prog_1_method_22_code
def yX9_wipe : MethodName := ⟨RX9, "wipe", "()I"⟩
abbrev cX9_fault : ByteArray := prog_1_method_23_code
def yX9_fault : MethodName := ⟨RX9, "fault", "()I"⟩
abbrev cX9_undo : ByteArray := prog_1_method_24_code
def yX9_undo : MethodName := ⟨RX9, "undo", "()I"⟩
abbrev cX9_save : ByteArray := prog_1_method_25_code
def yX9_save : MethodName := ⟨RX9, "save", "(I)I"⟩
abbrev cX9_restore : ByteArray := prog_1_method_26_code
def yX9_restore : MethodName := ⟨RX9, "restore", "(I)I"⟩
abbrev cX9_accept : ByteArray := prog_1_method_27_code
def yX9_accept : MethodName := ⟨RX9, "accept", "(I)I"⟩
abbrev cX9_isLetter : ByteArray := prog_1_method_28_code
def yX9_isLetter : MethodName := ⟨RX9, "isLetter", "(I)Z"⟩
abbrev cX9_isSlot : ByteArray := prog_1_method_29_code
def yX9_isSlot : MethodName := ⟨RX9, "isSlot", "(I)Z"⟩
abbrev cX9_codeIn : ByteArray := prog_1_method_30_code
def yX9_codeIn : MethodName := ⟨RX9, "codeIn", "(JI)I"⟩
abbrev cX9_lengthOf : ByteArray := prog_1_method_31_code
def yX9_lengthOf : MethodName := ⟨RX9, "lengthOf", "(J)I"⟩
abbrev cX9_bitsOf : ByteArray := prog_1_method_32_code
def yX9_bitsOf : MethodName := ⟨RX9, "bitsOf", "(DII)J"⟩
def RX10 : String := "PairGrammarsModel"
def TX10 : u_T := fun k => match k with
  | 0 => ("PairGrammarsModel", "all", "[I", true)
  | 1 => ("PairGrammarsModel", "kept", "[I", true)
  | 2 => ("PairGrammarsModel", "tried", "[I", true)
  | 3 => ("PairGrammarsModel", "history", "[I", true)
  | 4 => ("PairGrammarsModel", "historyLong", "I", false)
  | 5 => ("PairGrammarsModel", "slots", "[I", true)
  | 6 => ("PairGrammarsModel", "isSaved", "[I", true)
  | 7 => ("PairGrammarsModel", "tells", "[I", true)
  | 8 => ("PairGrammarsModel", "deep", "[I", true)
  | 9 => ("PairGrammarsModel", "word", "[I", true)
  | 10 => ("PairGrammarsModel", "otherWord", "[I", true)
  | 11 => ("PairGrammarsModel", "rowsIn", "[I", true)
  | 12 => ("PairGrammarsModel", "placesIn", "[I", true)
  | 13 => ("PairGrammarsModel", "laid", "[I", true)
  | 14 => ("PairGrammarsModel", "spotIn", "I", false)
  | 15 => ("PairGrammarsModel", "rest", "I", false)
  | 16 => ("PairGrammarsModel", "pad", "[I", true)
  | 17 => ("PairGrammarsModel", "padLong", "I", false)
  | _ => ("PairGrammarsModel", "spot", "I", false)
def tyX10 : Nat → FieldType := fun k => match k with
  | 0 => .array .int
  | 1 => .array .int
  | 2 => .array .int
  | 3 => .array .int
  | 4 => .int
  | 5 => .array .int
  | 6 => .array .int
  | 7 => .array .int
  | 8 => .array .int
  | 9 => .array .int
  | 10 => .array .int
  | 11 => .array .int
  | 12 => .array .int
  | 13 => .array .int
  | 14 => .int
  | 15 => .int
  | 16 => .array .int
  | 17 => .int
  | _ => .int
abbrev wsX100 : List Cond := u_ws RX10 TX10 19
theorem nmX10 : ∀ a, a < 19 → ∀ b, b < 19 → a ≠ b → (TX10 a).2.1 ≠ (TX10 b).2.1 := by decide +kernel
theorem tyX10_ok : ∀ k, k < 19 → parseFieldDescriptor (TX10 k).2.2.1 = some (tyX10 k) := by decide +kernel
abbrev cX10_init : ByteArray := prog_12_method_1_code
def yX10_init : MethodName := ⟨RX10, "<init>", "()V"⟩
abbrev cX10_in : ByteArray := prog_12_method_3_code
def yX10_in : MethodName := ⟨RX10, "in", "(JJJ)Z"⟩
abbrev cX10_copy : ByteArray := prog_12_method_4_code
def yX10_copy : MethodName := ⟨RX10, "copy", "([I[I)V"⟩
abbrev cX10_changed : ByteArray := prog_12_method_5_code
def yX10_changed : MethodName := ⟨RX10, "changed", "(I)I"⟩
abbrev cX10_rowLong : ByteArray := prog_12_method_6_code
def yX10_rowLong : MethodName := ⟨RX10, "rowLong", "(I)I"⟩
abbrev cX10_at : ByteArray := prog_12_method_7_code
def yX10_at : MethodName := ⟨RX10, "at", "(II)I"⟩
abbrev cX10_isRule : ByteArray := prog_12_method_8_code
def yX10_isRule : MethodName := ⟨RX10, "isRule", "(I)Z"⟩
abbrev cX10_ruleOf : ByteArray := prog_12_method_9_code
def yX10_ruleOf : MethodName := ⟨RX10, "ruleOf", "(I)I"⟩
abbrev cX10_isLetter : ByteArray := prog_12_method_10_code
def yX10_isLetter : MethodName := ⟨RX10, "isLetter", "(I)Z"⟩
abbrev cX10_rowAt : ByteArray := prog_12_method_11_code
def yX10_rowAt : MethodName := ⟨RX10, "rowAt", "(I)I"⟩
abbrev cX10_letters : ByteArray := prog_12_method_12_code
def yX10_letters : MethodName := ⟨RX10, "letters", "(I)I"⟩
abbrev cX10_measures : ByteArray := prog_12_method_13_code
def yX10_measures : MethodName := ⟨RX10, "measures", "()V"⟩
abbrev cX10_wordLong : ByteArray := prog_12_method_14_code
def yX10_wordLong : MethodName := ⟨RX10, "wordLong", "()I"⟩
abbrev cX10_used : ByteArray := prog_12_method_15_code
def yX10_used : MethodName := ⟨RX10, "used", "(I)I"⟩
abbrev cX10_digs : ByteArray := prog_12_method_16_code
def yX10_digs : MethodName := ⟨RX10, "digs", "()V"⟩
abbrev cX10_size : ByteArray := prog_12_method_17_code
def yX10_size : MethodName := ⟨RX10, "size", "()I"⟩
abbrev cX10_tellsWord : ByteArray := prog_12_method_18_code
def yX10_tellsWord : MethodName := ⟨RX10, "tellsWord", "([II[I)I"⟩
abbrev cX10_pairs : ByteArray := prog_12_method_19_code
def yX10_pairs : MethodName := ⟨RX10, "pairs", "(II)I"⟩
abbrev cX10_pairsFrom : ByteArray := prog_12_method_20_code
def yX10_pairsFrom : MethodName := ⟨RX10, "pairsFrom", "(I)I"⟩
abbrev cX10_bestPlace : ByteArray := prog_12_method_21_code
def yX10_bestPlace : MethodName := ⟨RX10, "bestPlace", "()I"⟩
abbrev cX10_folds : ByteArray := prog_12_method_22_code
def yX10_folds : MethodName := ⟨RX10, "folds", "()Z"⟩
abbrev cX10_usedIn : ByteArray := prog_12_method_23_code
def yX10_usedIn : MethodName := ⟨RX10, "usedIn", "(II)I"⟩
abbrev cX10_canUnroll : ByteArray := prog_12_method_24_code
def yX10_canUnroll : MethodName := ⟨RX10, "canUnroll", "(I)Z"⟩
abbrev cX10_unrollsIn : ByteArray := prog_12_method_25_code
def yX10_unrollsIn : MethodName := ⟨RX10, "unrollsIn", "(II)V"⟩
abbrev cX10_unrolls : ByteArray := prog_12_method_26_code
def yX10_unrolls : MethodName := ⟨RX10, "unrolls", "(I)V"⟩
abbrev cX10_nextPruned : ByteArray := prog_12_method_27_code
def yX10_nextPruned : MethodName := ⟨RX10, "nextPruned", "()I"⟩
abbrev cX10_prunes : ByteArray := prog_12_method_28_code
def yX10_prunes : MethodName := ⟨RX10, "prunes", "()I"⟩
abbrev cX10_seeks : ByteArray := prog_12_method_29_code
def yX10_seeks : MethodName := ⟨RX10, "seeks", "(I)V"⟩
abbrev cX10_opensAt : ByteArray := prog_12_method_30_code
def yX10_opensAt : MethodName := ⟨RX10, "opensAt", "(I)V"⟩
abbrev cX10_opensTo : ByteArray := prog_12_method_31_code
def yX10_opensTo : MethodName := ⟨RX10, "opensTo", "(I)Z"⟩
abbrev cX10_fails : ByteArray := prog_12_method_32_code
def yX10_fails : MethodName := ⟨RX10, "fails", "(I)I"⟩
abbrev cX10_put : ByteArray := prog_12_method_33_code
def yX10_put : MethodName := ⟨RX10, "put", "(J)I"⟩
abbrev cX10_wipe : ByteArray := prog_12_method_34_code
def yX10_wipe : MethodName := ⟨RX10, "wipe", "()I"⟩
abbrev cX10_takes : ByteArray := prog_12_method_35_code
def yX10_takes : MethodName := ⟨RX10, "takes", "(I)Z"⟩
abbrev cX10_symbolOf : ByteArray := prog_12_method_36_code
def yX10_symbolOf : MethodName := ⟨RX10, "symbolOf", "(II)I"⟩
abbrev cX10_readsRow : ByteArray := prog_12_method_37_code
def yX10_readsRow : MethodName := ⟨RX10, "readsRow", "(II)Z"⟩
abbrev cX10_fault : ByteArray := prog_12_method_38_code
def yX10_fault : MethodName := ⟨RX10, "fault", "()I"⟩
abbrev cX10_tell : ByteArray := prog_12_method_39_code
def yX10_tell : MethodName := ⟨RX10, "tell", "()I"⟩
abbrev cX10_fold : ByteArray := prog_12_method_40_code
def yX10_fold : MethodName := ⟨RX10, "fold", "(I)I"⟩
abbrev cX10_unroll : ByteArray := prog_12_method_41_code
def yX10_unroll : MethodName := ⟨RX10, "unroll", "(I)I"⟩
abbrev cX10_prune : ByteArray := prog_12_method_42_code
def yX10_prune : MethodName := ⟨RX10, "prune", "()I"⟩
abbrev cX10_edit : ByteArray := prog_12_method_43_code
def yX10_edit : MethodName := ⟨RX10, "edit", "(II)I"⟩
abbrev cX10_isFirst : ByteArray := prog_12_method_44_code
def yX10_isFirst : MethodName := ⟨RX10, "isFirst", "(I)Z"⟩
abbrev cX10_insert : ByteArray := prog_12_method_45_code
def yX10_insert : MethodName := ⟨RX10, "insert", "(II)I"⟩
abbrev cX10_delete : ByteArray := prog_12_method_46_code
def yX10_delete : MethodName := ⟨RX10, "delete", "(I)I"⟩
abbrev cX10_letter : ByteArray := prog_12_method_47_code
def yX10_letter : MethodName := ⟨RX10, "letter", "(I)I"⟩
abbrev cX10_symbol : ByteArray := prog_12_method_48_code
def yX10_symbol : MethodName := ⟨RX10, "symbol", "(II)I"⟩
abbrev cX10_ofRule : ByteArray := prog_12_method_49_code
def yX10_ofRule : MethodName := ⟨RX10, "ofRule", "(II)I"⟩
abbrev cX10_deepest : ByteArray := prog_12_method_50_code
def yX10_deepest : MethodName := ⟨RX10, "deepest", "()I"⟩
abbrev cX10_notUsed : ByteArray := prog_12_method_51_code
def yX10_notUsed : MethodName := ⟨RX10, "notUsed", "()I"⟩
abbrev cX10_count : ByteArray := prog_12_method_52_code
def yX10_count : MethodName := ⟨RX10, "count", "(I)I"⟩
abbrev cX10_isSymbol : ByteArray := prog_12_method_53_code
def yX10_isSymbol : MethodName := ⟨RX10, "isSymbol", "(I)Z"⟩
abbrev cX10_pair : ByteArray := prog_12_method_54_code
def yX10_pair : MethodName := ⟨RX10, "pair", "(II)I"⟩
abbrev cX10_best : ByteArray := prog_12_method_55_code
def yX10_best : MethodName := ⟨RX10, "best", "(I)I"⟩
abbrev cX10_ratio : ByteArray := prog_12_method_56_code
def yX10_ratio : MethodName := ⟨RX10, "ratio", "()J"⟩
abbrev cX10_share : ByteArray := prog_12_method_57_code
def yX10_share : MethodName := ⟨RX10, "share", "(I)I"⟩
abbrev cX10_mark : ByteArray := prog_12_method_58_code
def yX10_mark : MethodName := ⟨RX10, "mark", "()I"⟩
abbrev cX10_couldBe : ByteArray := prog_12_method_59_code
def yX10_couldBe : MethodName := ⟨RX10, "couldBe", "()I"⟩
abbrev cX10_unlike : ByteArray := prog_12_method_60_code
def yX10_unlike : MethodName := ⟨RX10, "unlike", "(I)I"⟩
abbrev cX10_opens : ByteArray := prog_12_method_61_code
def yX10_opens : MethodName := ⟨RX10, "opens", "(I)I"⟩
abbrev cX10_undo : ByteArray := prog_12_method_62_code
def yX10_undo : MethodName := ⟨RX10, "undo", "()I"⟩
abbrev cX10_save : ByteArray := prog_12_method_63_code
def yX10_save : MethodName := ⟨RX10, "save", "(I)I"⟩
abbrev cX10_restore : ByteArray := prog_12_method_64_code
def yX10_restore : MethodName := ⟨RX10, "restore", "(I)I"⟩
def RJx145de : String := "java/io/Serializable"
def TJx145de : u_T := fun k => match k with
  | _ => ("", "", "", false)
def tyJx145de : Nat → FieldType := fun k => match k with
  | _ => .int
abbrev wsJx145de0 : List Cond := u_ws RJx145de TJx145de 0
theorem nmJx145de : ∀ a, a < 0 → ∀ b, b < 0 → a ≠ b → (TJx145de a).2.1 ≠ (TJx145de b).2.1 := by decide +kernel
theorem tyJx145de_ok : ∀ k, k < 0 → parseFieldDescriptor (TJx145de k).2.2.1 = some (tyJx145de k) := by decide +kernel
def RJxb160c : String := "java/lang/Comparable"
def TJxb160c : u_T := fun k => match k with
  | _ => ("", "", "", false)
def tyJxb160c : Nat → FieldType := fun k => match k with
  | _ => .int
abbrev wsJxb160c0 : List Cond := u_ws RJxb160c TJxb160c 0
theorem nmJxb160c : ∀ a, a < 0 → ∀ b, b < 0 → a ≠ b → (TJxb160c a).2.1 ≠ (TJxb160c b).2.1 := by decide +kernel
theorem tyJxb160c_ok : ∀ k, k < 0 → parseFieldDescriptor (TJxb160c k).2.2.1 = some (tyJxb160c k) := by decide +kernel
def RJxe99ae : String := "java/lang/Double"
def TJxe99ae : u_T := fun k => match k with
  | _ => ("", "", "", false)
def tyJxe99ae : Nat → FieldType := fun k => match k with
  | _ => .int
abbrev wsJxe99ae0 : List Cond := u_ws RJxe99ae TJxe99ae 0
theorem nmJxe99ae : ∀ a, a < 0 → ∀ b, b < 0 → a ≠ b → (TJxe99ae a).2.1 ≠ (TJxe99ae b).2.1 := by decide +kernel
theorem tyJxe99ae_ok : ∀ k, k < 0 → parseFieldDescriptor (TJxe99ae k).2.2.1 = some (tyJxe99ae k) := by decide +kernel
abbrev cJxe99ae_isNaN_b9ae7 : ByteArray := prog_13_method_6_code
def yJxe99ae_isNaN_b9ae7 : MethodName := ⟨RJxe99ae, "isNaN", "(D)Z"⟩
abbrev cJxe99ae_doubleToLongBits_ccdee : ByteArray := prog_13_method_23_code
def yJxe99ae_doubleToLongBits_ccdee : MethodName := ⟨RJxe99ae, "doubleToLongBits", "(D)J"⟩
def RJxf58ca : String := "java/lang/Float"
def TJxf58ca : u_T := fun k => match k with
  | _ => ("", "", "", false)
def tyJxf58ca : Nat → FieldType := fun k => match k with
  | _ => .int
abbrev wsJxf58ca0 : List Cond := u_ws RJxf58ca TJxf58ca 0
theorem nmJxf58ca : ∀ a, a < 0 → ∀ b, b < 0 → a ≠ b → (TJxf58ca a).2.1 ≠ (TJxf58ca b).2.1 := by decide +kernel
theorem tyJxf58ca_ok : ∀ k, k < 0 → parseFieldDescriptor (TJxf58ca k).2.2.1 = some (tyJxf58ca k) := by decide +kernel
abbrev cJxf58ca_isNaN_12338 : ByteArray := prog_14_method_6_code
def yJxf58ca_isNaN_12338 : MethodName := ⟨RJxf58ca, "isNaN", "(F)Z"⟩
abbrev cJxf58ca_floatToIntBits_5c35a : ByteArray := prog_14_method_24_code
def yJxf58ca_floatToIntBits_5c35a : MethodName := ⟨RJxf58ca, "floatToIntBits", "(F)I"⟩
def RJ9 : String := "java/lang/Math"
def TJ9 : u_T := fun k => match k with
  | _ => ("", "", "", false)
def tyJ9 : Nat → FieldType := fun k => match k with
  | _ => .int
abbrev wsJ90 : List Cond := u_ws RJ9 TJ9 0
theorem nmJ9 : ∀ a, a < 0 → ∀ b, b < 0 → a ≠ b → (TJ9 a).2.1 ≠ (TJ9 b).2.1 := by decide +kernel
theorem tyJ9_ok : ∀ k, k < 0 → parseFieldDescriptor (TJ9 k).2.2.1 = some (tyJ9 k) := by decide +kernel
abbrev cJ9_max_7cf53 : ByteArray := prog_15_method_65_code
def yJ9_max_7cf53 : MethodName := ⟨RJ9, "max", "(II)I"⟩
abbrev cJ9_min_7cf53 : ByteArray := prog_15_method_69_code
def yJ9_min_7cf53 : MethodName := ⟨RJ9, "min", "(II)I"⟩
def RJxd2413 : String := "java/lang/Number"
def TJxd2413 : u_T := fun k => match k with
  | _ => ("", "", "", false)
def tyJxd2413 : Nat → FieldType := fun k => match k with
  | _ => .int
abbrev wsJxd24130 : List Cond := u_ws RJxd2413 TJxd2413 0
theorem nmJxd2413 : ∀ a, a < 0 → ∀ b, b < 0 → a ≠ b → (TJxd2413 a).2.1 ≠ (TJxd2413 b).2.1 := by decide +kernel
theorem tyJxd2413_ok : ∀ k, k < 0 → parseFieldDescriptor (TJxd2413 k).2.2.1 = some (tyJxd2413 k) := by decide +kernel
def RJ10 : String := "java/lang/System"
def TJ10 : u_T := fun k => match k with
  | _ => ("", "", "", false)
def tyJ10 : Nat → FieldType := fun k => match k with
  | _ => .int
abbrev wsJ100 : List Cond := u_ws RJ10 TJ10 0
theorem nmJ10 : ∀ a, a < 0 → ∀ b, b < 0 → a ≠ b → (TJ10 a).2.1 ≠ (TJ10 b).2.1 := by decide +kernel
theorem tyJ10_ok : ∀ k, k < 0 → parseFieldDescriptor (TJ10 k).2.2.1 = some (tyJ10 k) := by decide +kernel
def RJxfd54e : String := "java/lang/constant/Constable"
def TJxfd54e : u_T := fun k => match k with
  | _ => ("", "", "", false)
def tyJxfd54e : Nat → FieldType := fun k => match k with
  | _ => .int
abbrev wsJxfd54e0 : List Cond := u_ws RJxfd54e TJxfd54e 0
theorem nmJxfd54e : ∀ a, a < 0 → ∀ b, b < 0 → a ≠ b → (TJxfd54e a).2.1 ≠ (TJxfd54e b).2.1 := by decide +kernel
theorem tyJxfd54e_ok : ∀ k, k < 0 → parseFieldDescriptor (TJxfd54e k).2.2.1 = some (tyJxfd54e k) := by decide +kernel
def RJx3cf43 : String := "java/lang/constant/ConstantDesc"
def TJx3cf43 : u_T := fun k => match k with
  | _ => ("", "", "", false)
def tyJx3cf43 : Nat → FieldType := fun k => match k with
  | _ => .int
abbrev wsJx3cf430 : List Cond := u_ws RJx3cf43 TJx3cf43 0
theorem nmJx3cf43 : ∀ a, a < 0 → ∀ b, b < 0 → a ≠ b → (TJx3cf43 a).2.1 ≠ (TJx3cf43 b).2.1 := by decide +kernel
theorem tyJx3cf43_ok : ∀ k, k < 0 → parseFieldDescriptor (TJx3cf43 k).2.2.1 = some (tyJx3cf43 k) := by decide +kernel
def RJ7 : String := "java/util/Arrays"
def TJ7 : u_T := fun k => match k with
  | _ => ("", "", "", false)
def tyJ7 : Nat → FieldType := fun k => match k with
  | _ => .int
abbrev wsJ70 : List Cond := u_ws RJ7 TJ7 0
theorem nmJ7 : ∀ a, a < 0 → ∀ b, b < 0 → a ≠ b → (TJ7 a).2.1 ≠ (TJ7 b).2.1 := by decide +kernel
theorem tyJ7_ok : ∀ k, k < 0 → parseFieldDescriptor (TJ7 k).2.2.1 = some (tyJ7 k) := by decide +kernel
abbrev cJ7_fill_53178 : ByteArray := prog_18_method_103_code
def yJ7_fill_53178 : MethodName := ⟨RJ7, "fill", "([II)V"⟩
def RL : String := "PairGrammarsLaw"
abbrev cL_law : ByteArray := code
def yL_law : MethodName := ⟨RL, "law", "([I)Z"⟩
abbrev vwCl : List vw_C := [(RX0, TX0, 7), (RX1, TX1, 3), (RX2, TX2, 2), (RX3, TX3, 4), (RX4, TX4, 2), (RX5, TX5, 1), (RX6, TX6, 2), (RX7, TX7, 4), (RX8, TX8, 3), (RX9, TX9, 12), (RX10, TX10, 19)]
theorem inw {ws : List Cond} (h : ws.all (fun w => lw_tbl.any (fun v => decide (v = w))) = true) : ∀ w ∈ ws, w ∈ lw_tbl := by
  intro w hw
  have h1 := List.all_eq_true.mp h w hw
  obtain ⟨v, hv, e⟩ := List.any_eq_true.mp h1
  rw [decide_eq_true_eq] at e
  rw [← e]; exact hv
theorem inX0 : ∀ w ∈ wsX00, w ∈ lw_tbl := by decide +kernel
theorem inX1 : ∀ w ∈ wsX10, w ∈ lw_tbl := by decide +kernel
theorem inX2 : ∀ w ∈ wsX20, w ∈ lw_tbl := by decide +kernel
theorem inX3 : ∀ w ∈ wsX30, w ∈ lw_tbl := by decide +kernel
theorem inX4 : ∀ w ∈ wsX40, w ∈ lw_tbl := by decide +kernel
theorem inX5 : ∀ w ∈ wsX50, w ∈ lw_tbl := by decide +kernel
theorem inX6 : ∀ w ∈ wsX60, w ∈ lw_tbl := by decide +kernel
theorem inX7 : ∀ w ∈ wsX70, w ∈ lw_tbl := by decide +kernel
theorem inX8 : ∀ w ∈ wsX80, w ∈ lw_tbl := by decide +kernel
theorem inX9 : ∀ w ∈ wsX90, w ∈ lw_tbl := by decide +kernel
theorem inX10 : ∀ w ∈ wsX100, w ∈ lw_tbl := by decide +kernel
end
section
abbrev PC : Type := (Nat × vp_A) ⊕ (Nat × List Value)
abbrev PM : Type := List PC
abbrev LV : Type := List (Nat × Value)
/-- a row of a resolved code: place, instruction, length, next place, target or kind, three numbers -/
abbrev EN : Type := Nat × Instr × Nat × Nat × Nat × Nat × Nat × Nat
abbrev MM : Type := Option FieldType × List EN
/-- name, bytes, locals, answer's type, how many calls deep, its class's number, parameters -/
abbrev MI : Type := MethodName × ByteArray × Nat × Option FieldType × Nat × Nat × Nat
def nth {α : Type} (d : α) : List α → Nat → α
  | [], _ => d
  | a :: _, 0 => a
  | _ :: l, n + 1 => nth d l n
def k_X0_init : MM := (none, [(0, .aload_n 0, 1, 1, 0, 0, 0, 0), (1, .invokespecial 3, 3, 4, 4, 0, 0, 0), (4, .aload_n 0, 1, 5, 0, 0, 0, 0), (5, .bipush 26, 2, 7, 0, 0, 0, 0), (7, .anewarray 9, 3, 10, 0, 2, 0, 0), (10, .putfield 11, 3, 13, 0, 0, 0, 0), (13, .aload_n 0, 1, 14, 0, 0, 0, 0), (14, .new 9, 3, 17, 0, 6, 0, 0), (17, .dup, 1, 18, 0, 0, 0, 0), (18, .invokespecial 17, 3, 21, 3, 64, 1, 0), (21, .putfield 18, 3, 24, 0, 0, 1, 0), (24, .aload_n 0, 1, 25, 0, 0, 0, 0), (25, .iconst 0, 1, 26, 0, 0, 0, 0), (26, .putfield 22, 3, 29, 0, 0, 2, 0), (29, .aload_n 0, 1, 30, 0, 0, 0, 0), (30, .bipush 26, 2, 32, 0, 0, 0, 0), (32, .newarray .int, 2, 34, 0, 0, 0, 0), (34, .putfield 26, 3, 37, 0, 0, 3, 0), (37, .aload_n 0, 1, 38, 0, 0, 0, 0), (38, .bipush 26, 2, 40, 0, 0, 0, 0), (40, .newarray .int, 2, 42, 0, 0, 0, 0), (42, .putfield 30, 3, 45, 0, 0, 4, 0), (45, .aload_n 0, 1, 46, 0, 0, 0, 0), (46, .bipush 26, 2, 48, 0, 0, 0, 0), (48, .newarray .int, 2, 50, 0, 0, 0, 0), (50, .putfield 33, 3, 53, 0, 0, 5, 0), (53, .aload_n 0, 1, 54, 0, 0, 0, 0), (54, .iconst 0, 1, 55, 0, 0, 0, 0), (55, .putfield 36, 3, 58, 0, 0, 6, 0), (58, .iconst 0, 1, 59, 0, 0, 0, 0), (59, .istore_n 1, 1, 60, 0, 0, 0, 0), (60, .iload_n 1, 1, 61, 0, 0, 0, 0), (61, .aload_n 0, 1, 62, 0, 0, 0, 0), (62, .getfield 11, 3, 65, 0, 0, 0, 0), (65, .arraylength, 1, 66, 0, 0, 0, 0), (66, .if_icmp .ge 22, 3, 69, 88, 0, 0, 0), (69, .aload_n 0, 1, 70, 0, 0, 0, 0), (70, .getfield 11, 3, 73, 0, 0, 0, 0), (73, .iload_n 1, 1, 74, 0, 0, 0, 0), (74, .new 9, 3, 77, 0, 6, 0, 0), (77, .dup, 1, 78, 0, 0, 0, 0), (78, .invokespecial 17, 3, 81, 3, 64, 1, 0), (81, .aastore, 1, 82, 0, 0, 0, 0), (82, .iinc 1 1, 3, 85, 0, 0, 0, 0), (85, .goto (-25), 3, 88, 60, 0, 0, 0), (88, .return_, 1, 89, 0, 0, 0, 0)])
def k_X0_clear : MM := (none, [(0, .aload_n 0, 1, 1, 0, 0, 0, 0), (1, .iconst 0, 1, 2, 0, 0, 0, 0), (2, .putfield 22, 3, 5, 0, 0, 2, 0), (5, .aload_n 0, 1, 6, 0, 0, 0, 0), (6, .getfield 18, 3, 9, 0, 0, 1, 0), (9, .invokevirtual 39, 3, 12, 1, 69, 1, 6), (12, .aload_n 0, 1, 13, 0, 0, 0, 0), (13, .invokevirtual 42, 3, 16, 1, 20, 1, 0), (16, .return_, 1, 17, 0, 0, 0, 0)])
def k_X0_copy : MM := (none, [(0, .aload_n 0, 1, 1, 0, 0, 0, 0), (1, .aload_n 1, 1, 2, 0, 0, 0, 0), (2, .getfield 22, 3, 5, 0, 0, 2, 0), (5, .putfield 22, 3, 8, 0, 0, 2, 0), (8, .iconst 0, 1, 9, 0, 0, 0, 0), (9, .istore_n 2, 1, 10, 0, 0, 0, 0), (10, .iload_n 2, 1, 11, 0, 0, 0, 0), (11, .aload_n 0, 1, 12, 0, 0, 0, 0), (12, .getfield 22, 3, 15, 0, 0, 2, 0), (15, .if_icmp .ge 33, 3, 18, 48, 0, 0, 0), (18, .iload_n 2, 1, 19, 0, 0, 0, 0), (19, .aload_n 0, 1, 20, 0, 0, 0, 0), (20, .getfield 11, 3, 23, 0, 0, 0, 0), (23, .arraylength, 1, 24, 0, 0, 0, 0), (24, .if_icmp .ge 24, 3, 27, 48, 0, 0, 0), (27, .aload_n 0, 1, 28, 0, 0, 0, 0), (28, .getfield 11, 3, 31, 0, 0, 0, 0), (31, .iload_n 2, 1, 32, 0, 0, 0, 0), (32, .aaload, 1, 33, 0, 0, 0, 0), (33, .aload_n 1, 1, 34, 0, 0, 0, 0), (34, .getfield 11, 3, 37, 0, 0, 0, 0), (37, .iload_n 2, 1, 38, 0, 0, 0, 0), (38, .aaload, 1, 39, 0, 0, 0, 0), (39, .invokevirtual 45, 3, 42, 1, 70, 2, 6), (42, .iinc 2 1, 3, 45, 0, 0, 0, 0), (45, .goto (-35), 3, 48, 10, 0, 0, 0), (48, .aload_n 0, 1, 49, 0, 0, 0, 0), (49, .getfield 18, 3, 52, 0, 0, 1, 0), (52, .aload_n 1, 1, 53, 0, 0, 0, 0), (53, .getfield 18, 3, 56, 0, 0, 1, 0), (56, .invokevirtual 45, 3, 59, 1, 70, 2, 6), (59, .aload_n 1, 1, 60, 0, 0, 0, 0), (60, .getfield 26, 3, 63, 0, 0, 3, 0), (63, .iconst 0, 1, 64, 0, 0, 0, 0), (64, .aload_n 0, 1, 65, 0, 0, 0, 0), (65, .getfield 26, 3, 68, 0, 0, 3, 0), (68, .iconst 0, 1, 69, 0, 0, 0, 0), (69, .aload_n 0, 1, 70, 0, 0, 0, 0), (70, .getfield 22, 3, 73, 0, 0, 2, 0), (73, .invokestatic 49, 3, 76, 5, 0, 0, 0), (76, .aload_n 1, 1, 77, 0, 0, 0, 0), (77, .getfield 30, 3, 80, 0, 0, 4, 0), (80, .iconst 0, 1, 81, 0, 0, 0, 0), (81, .aload_n 0, 1, 82, 0, 0, 0, 0), (82, .getfield 30, 3, 85, 0, 0, 4, 0), (85, .iconst 0, 1, 86, 0, 0, 0, 0), (86, .aload_n 0, 1, 87, 0, 0, 0, 0), (87, .getfield 22, 3, 90, 0, 0, 2, 0), (90, .invokestatic 49, 3, 93, 5, 0, 0, 0), (93, .aload_n 1, 1, 94, 0, 0, 0, 0), (94, .getfield 33, 3, 97, 0, 0, 5, 0), (97, .iconst 0, 1, 98, 0, 0, 0, 0), (98, .aload_n 0, 1, 99, 0, 0, 0, 0), (99, .getfield 33, 3, 102, 0, 0, 5, 0), (102, .iconst 0, 1, 103, 0, 0, 0, 0), (103, .aload_n 0, 1, 104, 0, 0, 0, 0), (104, .getfield 22, 3, 107, 0, 0, 2, 0), (107, .invokestatic 49, 3, 110, 5, 0, 0, 0), (110, .aload_n 0, 1, 111, 0, 0, 0, 0), (111, .aload_n 1, 1, 112, 0, 0, 0, 0), (112, .getfield 36, 3, 115, 0, 0, 6, 0), (115, .putfield 36, 3, 118, 0, 0, 6, 0), (118, .return_, 1, 119, 0, 0, 0, 0)])
def k_X0_ruleCount : MM := ((some .int), [(0, .aload_n 0, 1, 1, 0, 0, 0, 0), (1, .getfield 22, 3, 4, 0, 0, 2, 0), (4, .ireturn, 1, 5, 0, 0, 0, 0)])
def k_X0_hasRule : MM := ((some .boolean), [(0, .iload_n 1, 1, 1, 0, 0, 0, 0), (1, .ifCond .lt 24, 3, 4, 25, 0, 0, 0), (4, .iload_n 1, 1, 5, 0, 0, 0, 0), (5, .aload_n 0, 1, 6, 0, 0, 0, 0), (6, .getfield 22, 3, 9, 0, 0, 2, 0), (9, .if_icmp .ge 16, 3, 12, 25, 0, 0, 0), (12, .iload_n 1, 1, 13, 0, 0, 0, 0), (13, .aload_n 0, 1, 14, 0, 0, 0, 0), (14, .getfield 11, 3, 17, 0, 0, 0, 0), (17, .arraylength, 1, 18, 0, 0, 0, 0), (18, .if_icmp .ge 7, 3, 21, 25, 0, 0, 0), (21, .iconst 1, 1, 22, 0, 0, 0, 0), (22, .goto 4, 3, 25, 26, 0, 0, 0), (25, .iconst 0, 1, 26, 0, 0, 0, 0), (26, .ireturn, 1, 27, 0, 0, 0, 0)])
def k_X0_hasSymbol : MM := ((some .boolean), [(0, .iload_n 1, 1, 1, 0, 0, 0, 0), (1, .invokestatic 55, 3, 4, 8, 117, 1, 0), (4, .ifCond .ne 11, 3, 7, 15, 0, 0, 0), (7, .aload_n 0, 1, 8, 0, 0, 0, 0), (8, .iload_n 1, 1, 9, 0, 0, 0, 0), (9, .invokevirtual 59, 3, 12, 1, 6, 2, 0), (12, .ifCond .eq 7, 3, 15, 19, 0, 0, 0), (15, .iconst 1, 1, 16, 0, 0, 0, 0), (16, .goto 4, 3, 19, 20, 0, 0, 0), (19, .iconst 0, 1, 20, 0, 0, 0, 0), (20, .ireturn, 1, 21, 0, 0, 0, 0)])
def k_X0_isRule : MM := ((some .boolean), [(0, .iload_n 1, 1, 1, 0, 0, 0, 0), (1, .bipush 8, 2, 3, 0, 0, 0, 0), (3, .if_icmp .lt 18, 3, 6, 21, 0, 0, 0), (6, .iload_n 1, 1, 7, 0, 0, 0, 0), (7, .bipush 8, 2, 9, 0, 0, 0, 0), (9, .isub, 1, 10, 0, 0, 0, 0), (10, .aload_n 0, 1, 11, 0, 0, 0, 0), (11, .getfield 22, 3, 14, 0, 0, 2, 0), (14, .if_icmp .ge 7, 3, 17, 21, 0, 0, 0), (17, .iconst 1, 1, 18, 0, 0, 0, 0), (18, .goto 4, 3, 21, 22, 0, 0, 0), (21, .iconst 0, 1, 22, 0, 0, 0, 0), (22, .ireturn, 1, 23, 0, 0, 0, 0)])
def k_X0_hasPlace : MM := ((some .boolean), [(0, .iload_n 1, 1, 1, 0, 0, 0, 0), (1, .ifCond .lt 15, 3, 4, 16, 0, 0, 0), (4, .iload_n 1, 1, 5, 0, 0, 0, 0), (5, .aload_n 0, 1, 6, 0, 0, 0, 0), (6, .getfield 36, 3, 9, 0, 0, 6, 0), (9, .if_icmp .ge 7, 3, 12, 16, 0, 0, 0), (12, .iconst 1, 1, 13, 0, 0, 0, 0), (13, .goto 4, 3, 16, 17, 0, 0, 0), (16, .iconst 0, 1, 17, 0, 0, 0, 0), (17, .ireturn, 1, 18, 0, 0, 0, 0)])
def k_X0_mainRow : MM := ((some (.object "PairGrammars$Row")), [(0, .aload_n 0, 1, 1, 0, 0, 0, 0), (1, .getfield 18, 3, 4, 0, 0, 1, 0), (4, .areturn, 1, 5, 0, 0, 0, 0)])
def k_X0_ruleRow : MM := ((some (.object "PairGrammars$Row")), [(0, .aload_n 0, 1, 1, 0, 0, 0, 0), (1, .iload_n 1, 1, 2, 0, 0, 0, 0), (2, .invokevirtual 62, 3, 5, 1, 4, 2, 0), (5, .ifCond .eq 12, 3, 8, 17, 0, 0, 0), (8, .aload_n 0, 1, 9, 0, 0, 0, 0), (9, .getfield 11, 3, 12, 0, 0, 0, 0), (12, .iload_n 1, 1, 13, 0, 0, 0, 0), (13, .aaload, 1, 14, 0, 0, 0, 0), (14, .goto 7, 3, 17, 21, 0, 0, 0), (17, .aload_n 0, 1, 18, 0, 0, 0, 0), (18, .getfield 18, 3, 21, 0, 0, 1, 0), (21, .areturn, 1, 22, 0, 0, 0, 0)])
def k_X0_mainSymbol : MM := ((some .int), [(0, .aload_n 0, 1, 1, 0, 0, 0, 0), (1, .getfield 18, 3, 4, 0, 0, 1, 0), (4, .iload_n 1, 1, 5, 0, 0, 0, 0), (5, .invokevirtual 65, 3, 8, 1, 67, 2, 6), (8, .ireturn, 1, 9, 0, 0, 0, 0)])
def k_X0_wordLetters : MM := ((some .int), [(0, .aload_n 0, 1, 1, 0, 0, 0, 0), (1, .getfield 36, 3, 4, 0, 0, 6, 0), (4, .ireturn, 1, 5, 0, 0, 0, 0)])
def k_X0_lettersOfRule : MM := ((some .int), [(0, .aload_n 0, 1, 1, 0, 0, 0, 0), (1, .iload_n 1, 1, 2, 0, 0, 0, 0), (2, .invokevirtual 62, 3, 5, 1, 4, 2, 0), (5, .ifCond .eq 12, 3, 8, 17, 0, 0, 0), (8, .aload_n 0, 1, 9, 0, 0, 0, 0), (9, .getfield 26, 3, 12, 0, 0, 3, 0), (12, .iload_n 1, 1, 13, 0, 0, 0, 0), (13, .iaload, 1, 14, 0, 0, 0, 0), (14, .goto 4, 3, 17, 18, 0, 0, 0), (17, .iconst 0, 1, 18, 0, 0, 0, 0), (18, .ireturn, 1, 19, 0, 0, 0, 0)])
def k_X0_depthOfRule : MM := ((some .int), [(0, .aload_n 0, 1, 1, 0, 0, 0, 0), (1, .iload_n 1, 1, 2, 0, 0, 0, 0), (2, .invokevirtual 62, 3, 5, 1, 4, 2, 0), (5, .ifCond .eq 12, 3, 8, 17, 0, 0, 0), (8, .aload_n 0, 1, 9, 0, 0, 0, 0), (9, .getfield 30, 3, 12, 0, 0, 4, 0), (12, .iload_n 1, 1, 13, 0, 0, 0, 0), (13, .iaload, 1, 14, 0, 0, 0, 0), (14, .goto 4, 3, 17, 18, 0, 0, 0), (17, .iconst 0, 1, 18, 0, 0, 0, 0), (18, .ireturn, 1, 19, 0, 0, 0, 0)])
def k_X0_usesOf : MM := ((some .int), [(0, .aload_n 0, 1, 1, 0, 0, 0, 0), (1, .iload_n 1, 1, 2, 0, 0, 0, 0), (2, .invokevirtual 62, 3, 5, 1, 4, 2, 0), (5, .ifCond .eq 12, 3, 8, 17, 0, 0, 0), (8, .aload_n 0, 1, 9, 0, 0, 0, 0), (9, .getfield 33, 3, 12, 0, 0, 5, 0), (12, .iload_n 1, 1, 13, 0, 0, 0, 0), (13, .iaload, 1, 14, 0, 0, 0, 0), (14, .goto 4, 3, 17, 18, 0, 0, 0), (17, .iconst 0, 1, 18, 0, 0, 0, 0), (18, .ireturn, 1, 19, 0, 0, 0, 0)])
def k_X0_lettersOfSymbol : MM := ((some .int), [(0, .iload_n 1, 1, 1, 0, 0, 0, 0), (1, .bipush 8, 2, 3, 0, 0, 0, 0), (3, .isub, 1, 4, 0, 0, 0, 0), (4, .istore_n 2, 1, 5, 0, 0, 0, 0), (5, .iload_n 2, 1, 6, 0, 0, 0, 0), (6, .ifCond .lt 29, 3, 9, 35, 0, 0, 0), (9, .iload_n 2, 1, 10, 0, 0, 0, 0), (10, .aload_n 0, 1, 11, 0, 0, 0, 0), (11, .getfield 22, 3, 14, 0, 0, 2, 0), (14, .if_icmp .ge 21, 3, 17, 35, 0, 0, 0), (17, .iload_n 2, 1, 18, 0, 0, 0, 0), (18, .aload_n 0, 1, 19, 0, 0, 0, 0), (19, .getfield 26, 3, 22, 0, 0, 3, 0), (22, .arraylength, 1, 23, 0, 0, 0, 0), (23, .if_icmp .ge 12, 3, 26, 35, 0, 0, 0), (26, .aload_n 0, 1, 27, 0, 0, 0, 0), (27, .getfield 26, 3, 30, 0, 0, 3, 0), (30, .iload_n 2, 1, 31, 0, 0, 0, 0), (31, .iaload, 1, 32, 0, 0, 0, 0), (32, .goto 4, 3, 35, 36, 0, 0, 0), (35, .iconst 1, 1, 36, 0, 0, 0, 0), (36, .ireturn, 1, 37, 0, 0, 0, 0)])
def k_X0_totalSize : MM := ((some .int), [(0, .aload_n 0, 1, 1, 0, 0, 0, 0), (1, .getfield 18, 3, 4, 0, 0, 1, 0), (4, .invokevirtual 69, 3, 7, 1, 65, 1, 6), (7, .istore_n 1, 1, 8, 0, 0, 0, 0), (8, .iconst 0, 1, 9, 0, 0, 0, 0), (9, .istore_n 2, 1, 10, 0, 0, 0, 0), (10, .iload_n 2, 1, 11, 0, 0, 0, 0), (11, .aload_n 0, 1, 12, 0, 0, 0, 0), (12, .getfield 22, 3, 15, 0, 0, 2, 0), (15, .if_icmp .ge 20, 3, 18, 35, 0, 0, 0), (18, .iload_n 1, 1, 19, 0, 0, 0, 0), (19, .aload_n 0, 1, 20, 0, 0, 0, 0), (20, .iload_n 2, 1, 21, 0, 0, 0, 0), (21, .invokevirtual 73, 3, 24, 1, 9, 2, 0), (24, .invokevirtual 69, 3, 27, 1, 65, 1, 6), (27, .iadd, 1, 28, 0, 0, 0, 0), (28, .istore_n 1, 1, 29, 0, 0, 0, 0), (29, .iinc 2 1, 3, 32, 0, 0, 0, 0), (32, .goto (-22), 3, 35, 10, 0, 0, 0), (35, .iload_n 1, 1, 36, 0, 0, 0, 0), (36, .ireturn, 1, 37, 0, 0, 0, 0)])
def k_X0_deepest : MM := ((some .int), [(0, .iconst 0, 1, 1, 0, 0, 0, 0), (1, .istore_n 1, 1, 2, 0, 0, 0, 0), (2, .iconst 0, 1, 3, 0, 0, 0, 0), (3, .istore_n 2, 1, 4, 0, 0, 0, 0), (4, .iload_n 2, 1, 5, 0, 0, 0, 0), (5, .aload_n 0, 1, 6, 0, 0, 0, 0), (6, .getfield 22, 3, 9, 0, 0, 2, 0), (9, .if_icmp .ge 19, 3, 12, 28, 0, 0, 0), (12, .iload_n 1, 1, 13, 0, 0, 0, 0), (13, .aload_n 0, 1, 14, 0, 0, 0, 0), (14, .iload_n 2, 1, 15, 0, 0, 0, 0), (15, .invokevirtual 77, 3, 18, 1, 13, 2, 0), (18, .invokestatic 80, 3, 21, 0, 189, 2, 0), (21, .istore_n 1, 1, 22, 0, 0, 0, 0), (22, .iinc 2 1, 3, 25, 0, 0, 0, 0), (25, .goto (-21), 3, 28, 4, 0, 0, 0), (28, .iload_n 1, 1, 29, 0, 0, 0, 0), (29, .ireturn, 1, 30, 0, 0, 0, 0)])
def k_X0_unusedRules : MM := ((some .int), [(0, .iconst 0, 1, 1, 0, 0, 0, 0), (1, .istore_n 1, 1, 2, 0, 0, 0, 0), (2, .iconst 0, 1, 3, 0, 0, 0, 0), (3, .istore_n 2, 1, 4, 0, 0, 0, 0), (4, .iload_n 2, 1, 5, 0, 0, 0, 0), (5, .aload_n 0, 1, 6, 0, 0, 0, 0), (6, .getfield 22, 3, 9, 0, 0, 2, 0), (9, .if_icmp .ge 25, 3, 12, 34, 0, 0, 0), (12, .iload_n 1, 1, 13, 0, 0, 0, 0), (13, .aload_n 0, 1, 14, 0, 0, 0, 0), (14, .iload_n 2, 1, 15, 0, 0, 0, 0), (15, .invokevirtual 86, 3, 18, 1, 14, 2, 0), (18, .ifCond .ne 7, 3, 21, 25, 0, 0, 0), (21, .iconst 1, 1, 22, 0, 0, 0, 0), (22, .goto 4, 3, 25, 26, 0, 0, 0), (25, .iconst 0, 1, 26, 0, 0, 0, 0), (26, .iadd, 1, 27, 0, 0, 0, 0), (27, .istore_n 1, 1, 28, 0, 0, 0, 0), (28, .iinc 2 1, 3, 31, 0, 0, 0, 0), (31, .goto (-27), 3, 34, 4, 0, 0, 0), (34, .iload_n 1, 1, 35, 0, 0, 0, 0), (35, .ireturn, 1, 36, 0, 0, 0, 0)])
def k_X0_tellsTooMuch : MM := ((some .boolean), [(0, .iconst 0, 1, 1, 0, 0, 0, 0), (1, .istore_n 1, 1, 2, 0, 0, 0, 0), (2, .iload_n 1, 1, 3, 0, 0, 0, 0), (3, .aload_n 0, 1, 4, 0, 0, 0, 0), (4, .getfield 22, 3, 7, 0, 0, 2, 0), (7, .if_icmp .ge 22, 3, 10, 29, 0, 0, 0), (10, .aload_n 0, 1, 11, 0, 0, 0, 0), (11, .iload_n 1, 1, 12, 0, 0, 0, 0), (12, .invokevirtual 89, 3, 15, 1, 12, 2, 0), (15, .sipush 9999, 3, 18, 0, 0, 0, 0), (18, .if_icmp .le 5, 3, 21, 23, 0, 0, 0), (21, .iconst 1, 1, 22, 0, 0, 0, 0), (22, .ireturn, 1, 23, 0, 0, 0, 0), (23, .iinc 1 1, 3, 26, 0, 0, 0, 0), (26, .goto (-24), 3, 29, 2, 0, 0, 0), (29, .aload_n 0, 1, 30, 0, 0, 0, 0), (30, .getfield 36, 3, 33, 0, 0, 6, 0), (33, .sipush 9999, 3, 36, 0, 0, 0, 0), (36, .if_icmp .le 7, 3, 39, 43, 0, 0, 0), (39, .iconst 1, 1, 40, 0, 0, 0, 0), (40, .goto 4, 3, 43, 44, 0, 0, 0), (43, .iconst 0, 1, 44, 0, 0, 0, 0), (44, .ireturn, 1, 45, 0, 0, 0, 0)])
def k_X0_measure : MM := (none, [(0, .aload_n 0, 1, 1, 0, 0, 0, 0), (1, .getfield 33, 3, 4, 0, 0, 5, 0), (4, .iconst 0, 1, 5, 0, 0, 0, 0), (5, .invokestatic 92, 3, 8, 0, 191, 2, 0), (8, .iconst 0, 1, 9, 0, 0, 0, 0), (9, .istore_n 1, 1, 10, 0, 0, 0, 0), (10, .iload_n 1, 1, 11, 0, 0, 0, 0), (11, .aload_n 0, 1, 12, 0, 0, 0, 0), (12, .getfield 22, 3, 15, 0, 0, 2, 0), (15, .if_icmp .ge 69, 3, 18, 84, 0, 0, 0), (18, .iload_n 1, 1, 19, 0, 0, 0, 0), (19, .aload_n 0, 1, 20, 0, 0, 0, 0), (20, .getfield 11, 3, 23, 0, 0, 0, 0), (23, .arraylength, 1, 24, 0, 0, 0, 0), (24, .if_icmp .ge 60, 3, 27, 84, 0, 0, 0), (27, .aload_n 0, 1, 28, 0, 0, 0, 0), (28, .getfield 26, 3, 31, 0, 0, 3, 0), (31, .iload_n 1, 1, 32, 0, 0, 0, 0), (32, .aload_n 0, 1, 33, 0, 0, 0, 0), (33, .aload_n 0, 1, 34, 0, 0, 0, 0), (34, .getfield 11, 3, 37, 0, 0, 0, 0), (37, .iload_n 1, 1, 38, 0, 0, 0, 0), (38, .aaload, 1, 39, 0, 0, 0, 0), (39, .aload_n 0, 1, 40, 0, 0, 0, 0), (40, .getfield 11, 3, 43, 0, 0, 0, 0), (43, .iload_n 1, 1, 44, 0, 0, 0, 0), (44, .aaload, 1, 45, 0, 0, 0, 0), (45, .invokevirtual 69, 3, 48, 1, 65, 1, 6), (48, .invokevirtual 98, 3, 51, 1, 23, 3, 0), (51, .iastore, 1, 52, 0, 0, 0, 0), (52, .aload_n 0, 1, 53, 0, 0, 0, 0), (53, .getfield 30, 3, 56, 0, 0, 4, 0), (56, .iload_n 1, 1, 57, 0, 0, 0, 0), (57, .aload_n 0, 1, 58, 0, 0, 0, 0), (58, .aload_n 0, 1, 59, 0, 0, 0, 0), (59, .getfield 11, 3, 62, 0, 0, 0, 0), (62, .iload_n 1, 1, 63, 0, 0, 0, 0), (63, .aaload, 1, 64, 0, 0, 0, 0), (64, .invokevirtual 102, 3, 67, 1, 21, 2, 0), (67, .iastore, 1, 68, 0, 0, 0, 0), (68, .aload_n 0, 1, 69, 0, 0, 0, 0), (69, .aload_n 0, 1, 70, 0, 0, 0, 0), (70, .getfield 11, 3, 73, 0, 0, 0, 0), (73, .iload_n 1, 1, 74, 0, 0, 0, 0), (74, .aaload, 1, 75, 0, 0, 0, 0), (75, .invokevirtual 106, 3, 78, 1, 22, 2, 0), (78, .iinc 1 1, 3, 81, 0, 0, 0, 0), (81, .goto (-71), 3, 84, 10, 0, 0, 0), (84, .aload_n 0, 1, 85, 0, 0, 0, 0), (85, .aload_n 0, 1, 86, 0, 0, 0, 0), (86, .aload_n 0, 1, 87, 0, 0, 0, 0), (87, .getfield 18, 3, 90, 0, 0, 1, 0), (90, .aload_n 0, 1, 91, 0, 0, 0, 0), (91, .getfield 18, 3, 94, 0, 0, 1, 0), (94, .invokevirtual 69, 3, 97, 1, 65, 1, 6), (97, .invokevirtual 98, 3, 100, 1, 23, 3, 0), (100, .putfield 36, 3, 103, 0, 0, 6, 0), (103, .aload_n 0, 1, 104, 0, 0, 0, 0), (104, .aload_n 0, 1, 105, 0, 0, 0, 0), (105, .getfield 18, 3, 108, 0, 0, 1, 0), (108, .invokevirtual 106, 3, 111, 1, 22, 2, 0), (111, .return_, 1, 112, 0, 0, 0, 0)])
def k_X0_depthOfRow : MM := ((some .int), [(0, .iconst 0, 1, 1, 0, 0, 0, 0), (1, .istore_n 2, 1, 2, 0, 0, 0, 0), (2, .iconst 0, 1, 3, 0, 0, 0, 0), (3, .istore_n 3, 1, 4, 0, 0, 0, 0), (4, .iload_n 3, 1, 5, 0, 0, 0, 0), (5, .aload_n 1, 1, 6, 0, 0, 0, 0), (6, .invokevirtual 69, 3, 9, 1, 65, 1, 6), (9, .if_icmp .ge 26, 3, 12, 35, 0, 0, 0), (12, .iload_n 2, 1, 13, 0, 0, 0, 0), (13, .aload_n 0, 1, 14, 0, 0, 0, 0), (14, .aload_n 1, 1, 15, 0, 0, 0, 0), (15, .iload_n 3, 1, 16, 0, 0, 0, 0), (16, .invokevirtual 65, 3, 19, 1, 67, 2, 6), (19, .bipush 8, 2, 21, 0, 0, 0, 0), (21, .isub, 1, 22, 0, 0, 0, 0), (22, .invokevirtual 77, 3, 25, 1, 13, 2, 0), (25, .invokestatic 80, 3, 28, 0, 189, 2, 0), (28, .istore_n 2, 1, 29, 0, 0, 0, 0), (29, .iinc 3 1, 3, 32, 0, 0, 0, 0), (32, .goto (-28), 3, 35, 4, 0, 0, 0), (35, .iload_n 2, 1, 36, 0, 0, 0, 0), (36, .iconst 1, 1, 37, 0, 0, 0, 0), (37, .iadd, 1, 38, 0, 0, 0, 0), (38, .ireturn, 1, 39, 0, 0, 0, 0)])
def k_X0_noteUses : MM := (none, [(0, .iconst 0, 1, 1, 0, 0, 0, 0), (1, .istore_n 2, 1, 2, 0, 0, 0, 0), (2, .iload_n 2, 1, 3, 0, 0, 0, 0), (3, .aload_n 1, 1, 4, 0, 0, 0, 0), (4, .invokevirtual 69, 3, 7, 1, 65, 1, 6), (7, .if_icmp .ge 36, 3, 10, 43, 0, 0, 0), (10, .aload_n 1, 1, 11, 0, 0, 0, 0), (11, .iload_n 2, 1, 12, 0, 0, 0, 0), (12, .invokevirtual 65, 3, 15, 1, 67, 2, 6), (15, .bipush 8, 2, 17, 0, 0, 0, 0), (17, .isub, 1, 18, 0, 0, 0, 0), (18, .istore_n 3, 1, 19, 0, 0, 0, 0), (19, .aload_n 0, 1, 20, 0, 0, 0, 0), (20, .iload_n 3, 1, 21, 0, 0, 0, 0), (21, .invokevirtual 62, 3, 24, 1, 4, 2, 0), (24, .ifCond .eq 13, 3, 27, 37, 0, 0, 0), (27, .aload_n 0, 1, 28, 0, 0, 0, 0), (28, .getfield 33, 3, 31, 0, 0, 5, 0), (31, .iload_n 3, 1, 32, 0, 0, 0, 0), (32, .dup2, 1, 33, 0, 0, 0, 0), (33, .iaload, 1, 34, 0, 0, 0, 0), (34, .iconst 1, 1, 35, 0, 0, 0, 0), (35, .iadd, 1, 36, 0, 0, 0, 0), (36, .iastore, 1, 37, 0, 0, 0, 0), (37, .iinc 2 1, 3, 40, 0, 0, 0, 0), (40, .goto (-38), 3, 43, 2, 0, 0, 0), (43, .return_, 1, 44, 0, 0, 0, 0)])
def k_X0_lettersAhead : MM := ((some .int), [(0, .iconst 0, 1, 1, 0, 0, 0, 0), (1, .istore_n 3, 1, 2, 0, 0, 0, 0), (2, .iconst 0, 1, 3, 0, 0, 0, 0), (3, .istore 4, 2, 5, 0, 0, 0, 0), (5, .iload 4, 2, 7, 0, 0, 0, 0), (7, .iload_n 2, 1, 8, 0, 0, 0, 0), (8, .if_icmp .ge 31, 3, 11, 39, 0, 0, 0), (11, .iload 4, 2, 13, 0, 0, 0, 0), (13, .aload_n 1, 1, 14, 0, 0, 0, 0), (14, .invokevirtual 69, 3, 17, 1, 65, 1, 6), (17, .if_icmp .ge 22, 3, 20, 39, 0, 0, 0), (20, .iload_n 3, 1, 21, 0, 0, 0, 0), (21, .aload_n 0, 1, 22, 0, 0, 0, 0), (22, .aload_n 1, 1, 23, 0, 0, 0, 0), (23, .iload 4, 2, 25, 0, 0, 0, 0), (25, .invokevirtual 65, 3, 28, 1, 67, 2, 6), (28, .invokevirtual 109, 3, 31, 1, 15, 2, 0), (31, .iadd, 1, 32, 0, 0, 0, 0), (32, .istore_n 3, 1, 33, 0, 0, 0, 0), (33, .iinc 4 1, 3, 36, 0, 0, 0, 0), (36, .goto (-31), 3, 39, 5, 0, 0, 0), (39, .iload_n 3, 1, 40, 0, 0, 0, 0), (40, .sipush 10000, 3, 43, 0, 0, 0, 0), (43, .invokestatic 112, 3, 46, 0, 190, 2, 0), (46, .ireturn, 1, 47, 0, 0, 0, 0)])
def k_X0_positionOf : MM := ((some .int), [(0, .iconst 0, 1, 1, 0, 0, 0, 0), (1, .istore_n 3, 1, 2, 0, 0, 0, 0), (2, .iconst 0, 1, 3, 0, 0, 0, 0), (3, .istore 4, 2, 5, 0, 0, 0, 0), (5, .iload 4, 2, 7, 0, 0, 0, 0), (7, .aload_n 1, 1, 8, 0, 0, 0, 0), (8, .invokevirtual 69, 3, 11, 1, 65, 1, 6), (11, .if_icmp .ge 30, 3, 14, 41, 0, 0, 0), (14, .iload_n 3, 1, 15, 0, 0, 0, 0), (15, .aload_n 0, 1, 16, 0, 0, 0, 0), (16, .aload_n 1, 1, 17, 0, 0, 0, 0), (17, .iload 4, 2, 19, 0, 0, 0, 0), (19, .invokevirtual 65, 3, 22, 1, 67, 2, 6), (22, .invokevirtual 109, 3, 25, 1, 15, 2, 0), (25, .iadd, 1, 26, 0, 0, 0, 0), (26, .istore_n 3, 1, 27, 0, 0, 0, 0), (27, .iload_n 3, 1, 28, 0, 0, 0, 0), (28, .iload_n 2, 1, 29, 0, 0, 0, 0), (29, .if_icmp .le 6, 3, 32, 35, 0, 0, 0), (32, .iload 4, 2, 34, 0, 0, 0, 0), (34, .ireturn, 1, 35, 0, 0, 0, 0), (35, .iinc 4 1, 3, 38, 0, 0, 0, 0), (38, .goto (-33), 3, 41, 5, 0, 0, 0), (41, .aload_n 1, 1, 42, 0, 0, 0, 0), (42, .invokevirtual 69, 3, 45, 1, 65, 1, 6), (45, .ireturn, 1, 46, 0, 0, 0, 0)])
def k_X0_positionInMain : MM := ((some .int), [(0, .aload_n 0, 1, 1, 0, 0, 0, 0), (1, .aload_n 0, 1, 2, 0, 0, 0, 0), (2, .getfield 18, 3, 5, 0, 0, 1, 0), (5, .iload_n 1, 1, 6, 0, 0, 0, 0), (6, .invokevirtual 115, 3, 9, 1, 24, 3, 0), (9, .ireturn, 1, 10, 0, 0, 0, 0)])
def k_X0_isBoundary : MM := ((some .boolean), [(0, .aload_n 0, 1, 1, 0, 0, 0, 0), (1, .aload_n 0, 1, 2, 0, 0, 0, 0), (2, .getfield 18, 3, 5, 0, 0, 1, 0), (5, .aload_n 0, 1, 6, 0, 0, 0, 0), (6, .iload_n 1, 1, 7, 0, 0, 0, 0), (7, .invokevirtual 118, 3, 10, 1, 25, 2, 0), (10, .invokevirtual 98, 3, 13, 1, 23, 3, 0), (13, .iload_n 1, 1, 14, 0, 0, 0, 0), (14, .if_icmp .ne 7, 3, 17, 21, 0, 0, 0), (17, .iconst 1, 1, 18, 0, 0, 0, 0), (18, .goto 4, 3, 21, 22, 0, 0, 0), (21, .iconst 0, 1, 22, 0, 0, 0, 0), (22, .ireturn, 1, 23, 0, 0, 0, 0)])
def k_X0_openTo : MM := ((some .int), [(0, .iconst 0, 1, 1, 0, 0, 0, 0), (1, .istore_n 2, 1, 2, 0, 0, 0, 0), (2, .iload_n 2, 1, 3, 0, 0, 0, 0), (3, .bipush 26, 2, 5, 0, 0, 0, 0), (5, .if_icmp .gt 59, 3, 8, 64, 0, 0, 0), (8, .aload_n 0, 1, 9, 0, 0, 0, 0), (9, .iload_n 1, 1, 10, 0, 0, 0, 0), (10, .invokevirtual 118, 3, 13, 1, 25, 2, 0), (13, .istore_n 3, 1, 14, 0, 0, 0, 0), (14, .aload_n 0, 1, 15, 0, 0, 0, 0), (15, .getfield 18, 3, 18, 0, 0, 1, 0), (18, .iload_n 3, 1, 19, 0, 0, 0, 0), (19, .invokevirtual 65, 3, 22, 1, 67, 2, 6), (22, .istore 4, 2, 24, 0, 0, 0, 0), (24, .aload_n 0, 1, 25, 0, 0, 0, 0), (25, .iload 4, 2, 27, 0, 0, 0, 0), (27, .invokevirtual 59, 3, 30, 1, 6, 2, 0), (30, .ifCond .ne 5, 3, 33, 35, 0, 0, 0), (33, .iload_n 3, 1, 34, 0, 0, 0, 0), (34, .ireturn, 1, 35, 0, 0, 0, 0), (35, .aload_n 0, 1, 36, 0, 0, 0, 0), (36, .getfield 18, 3, 39, 0, 0, 1, 0), (39, .iload_n 3, 1, 40, 0, 0, 0, 0), (40, .aload_n 0, 1, 41, 0, 0, 0, 0), (41, .iload 4, 2, 43, 0, 0, 0, 0), (43, .bipush 8, 2, 45, 0, 0, 0, 0), (45, .isub, 1, 46, 0, 0, 0, 0), (46, .invokevirtual 73, 3, 49, 1, 9, 2, 0), (49, .invokevirtual 121, 3, 52, 1, 74, 3, 6), (52, .ifCond .ne 6, 3, 55, 58, 0, 0, 0), (55, .bipush (-4), 2, 57, 0, 0, 0, 0), (57, .ireturn, 1, 58, 0, 0, 0, 0), (58, .iinc 2 1, 3, 61, 0, 0, 0, 0), (61, .goto (-59), 3, 64, 2, 0, 0, 0), (64, .bipush (-4), 2, 66, 0, 0, 0, 0), (66, .ireturn, 1, 67, 0, 0, 0, 0)])
def k_X0_setInMain : MM := (none, [(0, .aload_n 0, 1, 1, 0, 0, 0, 0), (1, .getfield 18, 3, 4, 0, 0, 1, 0), (4, .iload_n 1, 1, 5, 0, 0, 0, 0), (5, .iload_n 2, 1, 6, 0, 0, 0, 0), (6, .invokevirtual 125, 3, 9, 1, 68, 3, 6), (9, .aload_n 0, 1, 10, 0, 0, 0, 0), (10, .invokevirtual 42, 3, 13, 1, 20, 1, 0), (13, .return_, 1, 14, 0, 0, 0, 0)])
def k_X0_putIntoMain : MM := ((some .boolean), [(0, .aload_n 0, 1, 1, 0, 0, 0, 0), (1, .getfield 18, 3, 4, 0, 0, 1, 0), (4, .iload_n 1, 1, 5, 0, 0, 0, 0), (5, .iload_n 2, 1, 6, 0, 0, 0, 0), (6, .invokevirtual 129, 3, 9, 1, 72, 3, 6), (9, .istore_n 3, 1, 10, 0, 0, 0, 0), (10, .aload_n 0, 1, 11, 0, 0, 0, 0), (11, .invokevirtual 42, 3, 14, 1, 20, 1, 0), (14, .iload_n 3, 1, 15, 0, 0, 0, 0), (15, .ireturn, 1, 16, 0, 0, 0, 0)])
def k_X0_takeFromMain : MM := (none, [(0, .aload_n 0, 1, 1, 0, 0, 0, 0), (1, .getfield 18, 3, 4, 0, 0, 1, 0), (4, .iload_n 1, 1, 5, 0, 0, 0, 0), (5, .invokevirtual 133, 3, 8, 1, 73, 2, 6), (8, .aload_n 0, 1, 9, 0, 0, 0, 0), (9, .invokevirtual 42, 3, 12, 1, 20, 1, 0), (12, .return_, 1, 13, 0, 0, 0, 0)])
def k_X0_addRule : MM := ((some (.object "PairGrammars$Row")), [(0, .aload_n 0, 1, 1, 0, 0, 0, 0), (1, .getfield 22, 3, 4, 0, 0, 2, 0), (4, .aload_n 0, 1, 5, 0, 0, 0, 0), (5, .getfield 11, 3, 8, 0, 0, 0, 0), (8, .arraylength, 1, 9, 0, 0, 0, 0), (9, .if_icmp .lt 8, 3, 12, 17, 0, 0, 0), (12, .aload_n 0, 1, 13, 0, 0, 0, 0), (13, .getfield 18, 3, 16, 0, 0, 1, 0), (16, .areturn, 1, 17, 0, 0, 0, 0), (17, .aload_n 0, 1, 18, 0, 0, 0, 0), (18, .getfield 11, 3, 21, 0, 0, 0, 0), (21, .aload_n 0, 1, 22, 0, 0, 0, 0), (22, .getfield 22, 3, 25, 0, 0, 2, 0), (25, .aaload, 1, 26, 0, 0, 0, 0), (26, .astore_n 1, 1, 27, 0, 0, 0, 0), (27, .aload_n 1, 1, 28, 0, 0, 0, 0), (28, .invokevirtual 39, 3, 31, 1, 69, 1, 6), (31, .aload_n 0, 1, 32, 0, 0, 0, 0), (32, .dup, 1, 33, 0, 0, 0, 0), (33, .getfield 22, 3, 36, 0, 0, 2, 0), (36, .iconst 1, 1, 37, 0, 0, 0, 0), (37, .iadd, 1, 38, 0, 0, 0, 0), (38, .putfield 22, 3, 41, 0, 0, 2, 0), (41, .aload_n 1, 1, 42, 0, 0, 0, 0), (42, .areturn, 1, 43, 0, 0, 0, 0)])
def k_X0_foldUpTo : MM := ((some .int), [(0, .iconst 0, 1, 1, 0, 0, 0, 0), (1, .istore_n 3, 1, 2, 0, 0, 0, 0), (2, .iload_n 3, 1, 3, 0, 0, 0, 0), (3, .iload_n 1, 1, 4, 0, 0, 0, 0), (4, .if_icmp .ge 89, 3, 7, 93, 0, 0, 0), (7, .aload_n 0, 1, 8, 0, 0, 0, 0), (8, .getfield 22, 3, 11, 0, 0, 2, 0), (11, .bipush 26, 2, 13, 0, 0, 0, 0), (13, .if_icmp .ge 80, 3, 16, 93, 0, 0, 0), (16, .aload_n 2, 1, 17, 0, 0, 0, 0), (17, .aload_n 0, 1, 18, 0, 0, 0, 0), (18, .getfield 18, 3, 21, 0, 0, 1, 0), (21, .invokevirtual 137, 3, 24, 1, 50, 2, 3), (24, .ifCond .eq 69, 3, 27, 93, 0, 0, 0), (27, .aload_n 2, 1, 28, 0, 0, 0, 0), (28, .invokevirtual 143, 3, 31, 1, 49, 1, 3), (31, .iconst 1, 1, 32, 0, 0, 0, 0), (32, .if_icmp .le 61, 3, 35, 93, 0, 0, 0), (35, .bipush 8, 2, 37, 0, 0, 0, 0), (37, .aload_n 0, 1, 38, 0, 0, 0, 0), (38, .getfield 22, 3, 41, 0, 0, 2, 0), (41, .iadd, 1, 42, 0, 0, 0, 0), (42, .istore 4, 2, 44, 0, 0, 0, 0), (44, .aload_n 0, 1, 45, 0, 0, 0, 0), (45, .invokevirtual 146, 3, 48, 1, 31, 1, 0), (48, .astore 5, 2, 50, 0, 0, 0, 0), (50, .aload 5, 2, 52, 0, 0, 0, 0), (52, .aload_n 2, 1, 53, 0, 0, 0, 0), (53, .invokevirtual 150, 3, 56, 1, 47, 1, 3), (56, .invokevirtual 153, 3, 59, 1, 71, 2, 6), (59, .pop, 1, 60, 0, 0, 0, 0), (60, .aload 5, 2, 62, 0, 0, 0, 0), (62, .aload_n 2, 1, 63, 0, 0, 0, 0), (63, .invokevirtual 156, 3, 66, 1, 48, 1, 3), (66, .invokevirtual 153, 3, 69, 1, 71, 2, 6), (69, .pop, 1, 70, 0, 0, 0, 0), (70, .aload_n 0, 1, 71, 0, 0, 0, 0), (71, .getfield 18, 3, 74, 0, 0, 1, 0), (74, .aload_n 2, 1, 75, 0, 0, 0, 0), (75, .invokevirtual 150, 3, 78, 1, 47, 1, 3), (78, .aload_n 2, 1, 79, 0, 0, 0, 0), (79, .invokevirtual 156, 3, 82, 1, 48, 1, 3), (82, .iload 4, 2, 84, 0, 0, 0, 0), (84, .invokevirtual 159, 3, 87, 1, 78, 4, 6), (87, .iinc 3 1, 3, 90, 0, 0, 0, 0), (90, .goto (-88), 3, 93, 2, 0, 0, 0), (93, .aload_n 0, 1, 94, 0, 0, 0, 0), (94, .invokevirtual 42, 3, 97, 1, 20, 1, 0), (97, .iload_n 3, 1, 98, 0, 0, 0, 0), (98, .ireturn, 1, 99, 0, 0, 0, 0)])
def k_X0_canUnroll : MM := ((some .boolean), [(0, .aload_n 0, 1, 1, 0, 0, 0, 0), (1, .iload_n 1, 1, 2, 0, 0, 0, 0), (2, .invokevirtual 73, 3, 5, 1, 9, 2, 0), (5, .astore_n 2, 1, 6, 0, 0, 0, 0), (6, .iload_n 1, 1, 7, 0, 0, 0, 0), (7, .iconst 1, 1, 8, 0, 0, 0, 0), (8, .iadd, 1, 9, 0, 0, 0, 0), (9, .istore_n 3, 1, 10, 0, 0, 0, 0), (10, .iload_n 3, 1, 11, 0, 0, 0, 0), (11, .aload_n 0, 1, 12, 0, 0, 0, 0), (12, .getfield 22, 3, 15, 0, 0, 2, 0), (15, .if_icmp .ge 27, 3, 18, 42, 0, 0, 0), (18, .aload_n 0, 1, 19, 0, 0, 0, 0), (19, .iload_n 3, 1, 20, 0, 0, 0, 0), (20, .invokevirtual 73, 3, 23, 1, 9, 2, 0), (23, .bipush 8, 2, 25, 0, 0, 0, 0), (25, .iload_n 1, 1, 26, 0, 0, 0, 0), (26, .iadd, 1, 27, 0, 0, 0, 0), (27, .aload_n 2, 1, 28, 0, 0, 0, 0), (28, .invokevirtual 163, 3, 31, 1, 79, 3, 6), (31, .ifCond .ne 5, 3, 34, 36, 0, 0, 0), (34, .iconst 0, 1, 35, 0, 0, 0, 0), (35, .ireturn, 1, 36, 0, 0, 0, 0), (36, .iinc 3 1, 3, 39, 0, 0, 0, 0), (39, .goto (-29), 3, 42, 10, 0, 0, 0), (42, .aload_n 0, 1, 43, 0, 0, 0, 0), (43, .getfield 18, 3, 46, 0, 0, 1, 0), (46, .bipush 8, 2, 48, 0, 0, 0, 0), (48, .iload_n 1, 1, 49, 0, 0, 0, 0), (49, .iadd, 1, 50, 0, 0, 0, 0), (50, .aload_n 2, 1, 51, 0, 0, 0, 0), (51, .invokevirtual 163, 3, 54, 1, 79, 3, 6), (54, .ireturn, 1, 55, 0, 0, 0, 0)])
def k_X0_unrollRule : MM := (none, [(0, .aload_n 0, 1, 1, 0, 0, 0, 0), (1, .iload_n 1, 1, 2, 0, 0, 0, 0), (2, .invokevirtual 62, 3, 5, 1, 4, 2, 0), (5, .ifCond .ne 4, 3, 8, 9, 0, 0, 0), (8, .return_, 1, 9, 0, 0, 0, 0), (9, .aload_n 0, 1, 10, 0, 0, 0, 0), (10, .getfield 11, 3, 13, 0, 0, 0, 0), (13, .iload_n 1, 1, 14, 0, 0, 0, 0), (14, .aaload, 1, 15, 0, 0, 0, 0), (15, .astore_n 2, 1, 16, 0, 0, 0, 0), (16, .iload_n 1, 1, 17, 0, 0, 0, 0), (17, .iconst 1, 1, 18, 0, 0, 0, 0), (18, .iadd, 1, 19, 0, 0, 0, 0), (19, .istore_n 3, 1, 20, 0, 0, 0, 0), (20, .iload_n 3, 1, 21, 0, 0, 0, 0), (21, .aload_n 0, 1, 22, 0, 0, 0, 0), (22, .getfield 22, 3, 25, 0, 0, 2, 0), (25, .if_icmp .ge 46, 3, 28, 71, 0, 0, 0), (28, .iload_n 3, 1, 29, 0, 0, 0, 0), (29, .aload_n 0, 1, 30, 0, 0, 0, 0), (30, .getfield 11, 3, 33, 0, 0, 0, 0), (33, .arraylength, 1, 34, 0, 0, 0, 0), (34, .if_icmp .ge 37, 3, 37, 71, 0, 0, 0), (37, .aload_n 0, 1, 38, 0, 0, 0, 0), (38, .getfield 11, 3, 41, 0, 0, 0, 0), (41, .iload_n 3, 1, 42, 0, 0, 0, 0), (42, .aaload, 1, 43, 0, 0, 0, 0), (43, .bipush 8, 2, 45, 0, 0, 0, 0), (45, .iload_n 1, 1, 46, 0, 0, 0, 0), (46, .iadd, 1, 47, 0, 0, 0, 0), (47, .aload_n 2, 1, 48, 0, 0, 0, 0), (48, .invokevirtual 166, 3, 51, 1, 80, 3, 6), (51, .aload_n 0, 1, 52, 0, 0, 0, 0), (52, .getfield 11, 3, 55, 0, 0, 0, 0), (55, .iload_n 3, 1, 56, 0, 0, 0, 0), (56, .iconst 1, 1, 57, 0, 0, 0, 0), (57, .isub, 1, 58, 0, 0, 0, 0), (58, .aload_n 0, 1, 59, 0, 0, 0, 0), (59, .getfield 11, 3, 62, 0, 0, 0, 0), (62, .iload_n 3, 1, 63, 0, 0, 0, 0), (63, .aaload, 1, 64, 0, 0, 0, 0), (64, .aastore, 1, 65, 0, 0, 0, 0), (65, .iinc 3 1, 3, 68, 0, 0, 0, 0), (68, .goto (-48), 3, 71, 20, 0, 0, 0), (71, .aload_n 0, 1, 72, 0, 0, 0, 0), (72, .getfield 18, 3, 75, 0, 0, 1, 0), (75, .bipush 8, 2, 77, 0, 0, 0, 0), (77, .iload_n 1, 1, 78, 0, 0, 0, 0), (78, .iadd, 1, 79, 0, 0, 0, 0), (79, .aload_n 2, 1, 80, 0, 0, 0, 0), (80, .invokevirtual 166, 3, 83, 1, 80, 3, 6), (83, .aload_n 0, 1, 84, 0, 0, 0, 0), (84, .dup, 1, 85, 0, 0, 0, 0), (85, .getfield 22, 3, 88, 0, 0, 2, 0), (88, .iconst 1, 1, 89, 0, 0, 0, 0), (89, .isub, 1, 90, 0, 0, 0, 0), (90, .putfield 22, 3, 93, 0, 0, 2, 0), (93, .aload_n 0, 1, 94, 0, 0, 0, 0), (94, .getfield 11, 3, 97, 0, 0, 0, 0), (97, .aload_n 0, 1, 98, 0, 0, 0, 0), (98, .getfield 22, 3, 101, 0, 0, 2, 0), (101, .aload_n 2, 1, 102, 0, 0, 0, 0), (102, .aastore, 1, 103, 0, 0, 0, 0), (103, .aload_n 0, 1, 104, 0, 0, 0, 0), (104, .invokevirtual 42, 3, 107, 1, 20, 1, 0), (107, .return_, 1, 108, 0, 0, 0, 0)])
def k_X0_unrollSeldomUsed : MM := ((some .int), [(0, .iconst 0, 1, 1, 0, 0, 0, 0), (1, .istore_n 1, 1, 2, 0, 0, 0, 0), (2, .aload_n 0, 1, 3, 0, 0, 0, 0), (3, .invokevirtual 170, 3, 6, 1, 36, 1, 0), (6, .istore_n 2, 1, 7, 0, 0, 0, 0), (7, .iload_n 1, 1, 8, 0, 0, 0, 0), (8, .bipush 26, 2, 10, 0, 0, 0, 0), (10, .if_icmp .ge 25, 3, 13, 35, 0, 0, 0), (13, .iload_n 2, 1, 14, 0, 0, 0, 0), (14, .bipush (-6), 2, 16, 0, 0, 0, 0), (16, .if_icmp .eq 19, 3, 19, 35, 0, 0, 0), (19, .aload_n 0, 1, 20, 0, 0, 0, 0), (20, .iload_n 2, 1, 21, 0, 0, 0, 0), (21, .invokevirtual 173, 3, 24, 1, 34, 2, 0), (24, .iinc 1 1, 3, 27, 0, 0, 0, 0), (27, .aload_n 0, 1, 28, 0, 0, 0, 0), (28, .invokevirtual 170, 3, 31, 1, 36, 1, 0), (31, .istore_n 2, 1, 32, 0, 0, 0, 0), (32, .goto (-25), 3, 35, 7, 0, 0, 0), (35, .iload_n 1, 1, 36, 0, 0, 0, 0), (36, .ireturn, 1, 37, 0, 0, 0, 0)])
def k_X0_lowestSeldomUsed : MM := ((some .int), [(0, .iconst 0, 1, 1, 0, 0, 0, 0), (1, .istore_n 1, 1, 2, 0, 0, 0, 0), (2, .iload_n 1, 1, 3, 0, 0, 0, 0), (3, .aload_n 0, 1, 4, 0, 0, 0, 0), (4, .getfield 22, 3, 7, 0, 0, 2, 0), (7, .if_icmp .ge 28, 3, 10, 35, 0, 0, 0), (10, .aload_n 0, 1, 11, 0, 0, 0, 0), (11, .iload_n 1, 1, 12, 0, 0, 0, 0), (12, .invokevirtual 86, 3, 15, 1, 14, 2, 0), (15, .iconst 2, 1, 16, 0, 0, 0, 0), (16, .if_icmp .ge 13, 3, 19, 29, 0, 0, 0), (19, .aload_n 0, 1, 20, 0, 0, 0, 0), (20, .iload_n 1, 1, 21, 0, 0, 0, 0), (21, .invokevirtual 176, 3, 24, 1, 33, 2, 0), (24, .ifCond .eq 5, 3, 27, 29, 0, 0, 0), (27, .iload_n 1, 1, 28, 0, 0, 0, 0), (28, .ireturn, 1, 29, 0, 0, 0, 0), (29, .iinc 1 1, 3, 32, 0, 0, 0, 0), (32, .goto (-30), 3, 35, 2, 0, 0, 0), (35, .bipush (-6), 2, 37, 0, 0, 0, 0), (37, .ireturn, 1, 38, 0, 0, 0, 0)])
def k_X1_init : MM := (none, [(0, .aload_n 0, 1, 1, 0, 0, 0, 0), (1, .invokespecial 3, 3, 4, 4, 0, 0, 0), (4, .aload_n 0, 1, 5, 0, 0, 0, 0), (5, .bipush 6, 2, 7, 0, 0, 0, 0), (7, .anewarray 9, 3, 10, 0, 3, 0, 0), (10, .putfield 11, 3, 13, 0, 1, 0, 0), (13, .aload_n 0, 1, 14, 0, 0, 0, 0), (14, .iconst 0, 1, 15, 0, 0, 0, 0), (15, .putfield 17, 3, 18, 0, 1, 1, 0), (18, .aload_n 0, 1, 19, 0, 0, 0, 0), (19, .iconst 0, 1, 20, 0, 0, 0, 0), (20, .putfield 21, 3, 23, 0, 1, 2, 0), (23, .iconst 0, 1, 24, 0, 0, 0, 0), (24, .istore_n 1, 1, 25, 0, 0, 0, 0), (25, .iload_n 1, 1, 26, 0, 0, 0, 0), (26, .aload_n 0, 1, 27, 0, 0, 0, 0), (27, .getfield 11, 3, 30, 0, 1, 0, 0), (30, .arraylength, 1, 31, 0, 0, 0, 0), (31, .if_icmp .ge 22, 3, 34, 53, 0, 0, 0), (34, .aload_n 0, 1, 35, 0, 0, 0, 0), (35, .getfield 11, 3, 38, 0, 1, 0, 0), (38, .iload_n 1, 1, 39, 0, 0, 0, 0), (39, .new 9, 3, 42, 0, 0, 0, 0), (42, .dup, 1, 43, 0, 0, 0, 0), (43, .invokespecial 24, 3, 46, 2, 0, 1, 0), (46, .aastore, 1, 47, 0, 0, 0, 0), (47, .iinc 1 1, 3, 50, 0, 0, 0, 0), (50, .goto (-25), 3, 53, 25, 0, 0, 0), (53, .return_, 1, 54, 0, 0, 0, 0)])
def k_X1_size : MM := ((some .int), [(0, .aload_n 0, 1, 1, 0, 0, 0, 0), (1, .getfield 21, 3, 4, 0, 1, 2, 0), (4, .ireturn, 1, 5, 0, 0, 0, 0)])
def k_X1_record : MM := (none, [(0, .aload_n 0, 1, 1, 0, 0, 0, 0), (1, .getfield 11, 3, 4, 0, 1, 0, 0), (4, .aload_n 0, 1, 5, 0, 0, 0, 0), (5, .getfield 17, 3, 8, 0, 1, 1, 0), (8, .aaload, 1, 9, 0, 0, 0, 0), (9, .aload_n 1, 1, 10, 0, 0, 0, 0), (10, .invokevirtual 25, 3, 13, 1, 2, 2, 0), (13, .aload_n 0, 1, 14, 0, 0, 0, 0), (14, .aload_n 0, 1, 15, 0, 0, 0, 0), (15, .getfield 17, 3, 18, 0, 1, 1, 0), (18, .iconst 1, 1, 19, 0, 0, 0, 0), (19, .iadd, 1, 20, 0, 0, 0, 0), (20, .bipush 6, 2, 22, 0, 0, 0, 0), (22, .irem, 1, 23, 0, 0, 0, 0), (23, .putfield 17, 3, 26, 0, 1, 1, 0), (26, .aload_n 0, 1, 27, 0, 0, 0, 0), (27, .aload_n 0, 1, 28, 0, 0, 0, 0), (28, .getfield 21, 3, 31, 0, 1, 2, 0), (31, .iconst 1, 1, 32, 0, 0, 0, 0), (32, .iadd, 1, 33, 0, 0, 0, 0), (33, .bipush 6, 2, 35, 0, 0, 0, 0), (35, .invokestatic 29, 3, 38, 0, 190, 2, 0), (38, .putfield 21, 3, 41, 0, 1, 2, 0), (41, .return_, 1, 42, 0, 0, 0, 0)])
def k_X1_takeBack : MM := (none, [(0, .aload_n 0, 1, 1, 0, 0, 0, 0), (1, .getfield 21, 3, 4, 0, 1, 2, 0), (4, .ifCond .le 42, 3, 7, 46, 0, 0, 0), (7, .aload_n 0, 1, 8, 0, 0, 0, 0), (8, .aload_n 0, 1, 9, 0, 0, 0, 0), (9, .getfield 17, 3, 12, 0, 1, 1, 0), (12, .bipush 6, 2, 14, 0, 0, 0, 0), (14, .iadd, 1, 15, 0, 0, 0, 0), (15, .iconst 1, 1, 16, 0, 0, 0, 0), (16, .isub, 1, 17, 0, 0, 0, 0), (17, .bipush 6, 2, 19, 0, 0, 0, 0), (19, .irem, 1, 20, 0, 0, 0, 0), (20, .putfield 17, 3, 23, 0, 1, 1, 0), (23, .aload_n 0, 1, 24, 0, 0, 0, 0), (24, .dup, 1, 25, 0, 0, 0, 0), (25, .getfield 21, 3, 28, 0, 1, 2, 0), (28, .iconst 1, 1, 29, 0, 0, 0, 0), (29, .isub, 1, 30, 0, 0, 0, 0), (30, .putfield 21, 3, 33, 0, 1, 2, 0), (33, .aload_n 1, 1, 34, 0, 0, 0, 0), (34, .aload_n 0, 1, 35, 0, 0, 0, 0), (35, .getfield 11, 3, 38, 0, 1, 0, 0), (38, .aload_n 0, 1, 39, 0, 0, 0, 0), (39, .getfield 17, 3, 42, 0, 1, 1, 0), (42, .aaload, 1, 43, 0, 0, 0, 0), (43, .invokevirtual 25, 3, 46, 1, 2, 2, 0), (46, .return_, 1, 47, 0, 0, 0, 0)])
def k_X2_init : MM := (none, [(0, .aload_n 0, 1, 1, 0, 0, 0, 0), (1, .invokespecial 3, 3, 4, 4, 0, 0, 0), (4, .aload_n 0, 1, 5, 0, 0, 0, 0), (5, .bipush 80, 2, 7, 0, 0, 0, 0), (7, .newarray .int, 2, 9, 0, 0, 0, 0), (9, .putfield 9, 3, 12, 0, 2, 0, 0), (12, .aload_n 0, 1, 13, 0, 0, 0, 0), (13, .iconst 0, 1, 14, 0, 0, 0, 0), (14, .putfield 15, 3, 17, 0, 2, 1, 0), (17, .return_, 1, 18, 0, 0, 0, 0)])
def k_X2_size : MM := ((some .int), [(0, .aload_n 0, 1, 1, 0, 0, 0, 0), (1, .getfield 15, 3, 4, 0, 2, 1, 0), (4, .ireturn, 1, 5, 0, 0, 0, 0)])
def k_X2_at : MM := ((some .int), [(0, .iload_n 1, 1, 1, 0, 0, 0, 0), (1, .ifCond .lt 29, 3, 4, 30, 0, 0, 0), (4, .iload_n 1, 1, 5, 0, 0, 0, 0), (5, .aload_n 0, 1, 6, 0, 0, 0, 0), (6, .getfield 15, 3, 9, 0, 2, 1, 0), (9, .if_icmp .ge 21, 3, 12, 30, 0, 0, 0), (12, .iload_n 1, 1, 13, 0, 0, 0, 0), (13, .aload_n 0, 1, 14, 0, 0, 0, 0), (14, .getfield 9, 3, 17, 0, 2, 0, 0), (17, .arraylength, 1, 18, 0, 0, 0, 0), (18, .if_icmp .ge 12, 3, 21, 30, 0, 0, 0), (21, .aload_n 0, 1, 22, 0, 0, 0, 0), (22, .getfield 9, 3, 25, 0, 2, 0, 0), (25, .iload_n 1, 1, 26, 0, 0, 0, 0), (26, .iaload, 1, 27, 0, 0, 0, 0), (27, .goto 5, 3, 30, 32, 0, 0, 0), (30, .bipush (-6), 2, 32, 0, 0, 0, 0), (32, .ireturn, 1, 33, 0, 0, 0, 0)])
def k_X2_add : MM := (none, [(0, .aload_n 0, 1, 1, 0, 0, 0, 0), (1, .getfield 15, 3, 4, 0, 2, 1, 0), (4, .aload_n 0, 1, 5, 0, 0, 0, 0), (5, .getfield 9, 3, 8, 0, 2, 0, 0), (8, .arraylength, 1, 9, 0, 0, 0, 0), (9, .if_icmp .ge 23, 3, 12, 32, 0, 0, 0), (12, .aload_n 0, 1, 13, 0, 0, 0, 0), (13, .getfield 9, 3, 16, 0, 2, 0, 0), (16, .aload_n 0, 1, 17, 0, 0, 0, 0), (17, .getfield 15, 3, 20, 0, 2, 1, 0), (20, .iload_n 1, 1, 21, 0, 0, 0, 0), (21, .iastore, 1, 22, 0, 0, 0, 0), (22, .aload_n 0, 1, 23, 0, 0, 0, 0), (23, .dup, 1, 24, 0, 0, 0, 0), (24, .getfield 15, 3, 27, 0, 2, 1, 0), (27, .iconst 1, 1, 28, 0, 0, 0, 0), (28, .iadd, 1, 29, 0, 0, 0, 0), (29, .putfield 15, 3, 32, 0, 2, 1, 0), (32, .return_, 1, 33, 0, 0, 0, 0)])
def k_X2_clear : MM := (none, [(0, .aload_n 0, 1, 1, 0, 0, 0, 0), (1, .iconst 0, 1, 2, 0, 0, 0, 0), (2, .putfield 15, 3, 5, 0, 2, 1, 0), (5, .return_, 1, 6, 0, 0, 0, 0)])
def k_X3_init : MM := (none, [(0, .aload_n 0, 1, 1, 0, 0, 0, 0), (1, .invokespecial 3, 3, 4, 4, 0, 0, 0), (4, .aload_n 0, 1, 5, 0, 0, 0, 0), (5, .sipush 1156, 3, 8, 0, 0, 0, 0), (8, .newarray .int, 2, 10, 0, 0, 0, 0), (10, .putfield 9, 3, 13, 0, 3, 0, 0), (13, .aload_n 0, 1, 14, 0, 0, 0, 0), (14, .iconst 0, 1, 15, 0, 0, 0, 0), (15, .putfield 15, 3, 18, 0, 3, 1, 0), (18, .aload_n 0, 1, 19, 0, 0, 0, 0), (19, .iconst 0, 1, 20, 0, 0, 0, 0), (20, .putfield 19, 3, 23, 0, 3, 2, 0), (23, .aload_n 0, 1, 24, 0, 0, 0, 0), (24, .iconst 0, 1, 25, 0, 0, 0, 0), (25, .putfield 22, 3, 28, 0, 3, 3, 0), (28, .return_, 1, 29, 0, 0, 0, 0)])
def k_X3_bestFirst : MM := ((some .int), [(0, .aload_n 0, 1, 1, 0, 0, 0, 0), (1, .getfield 15, 3, 4, 0, 3, 1, 0), (4, .ireturn, 1, 5, 0, 0, 0, 0)])
def k_X3_bestSecond : MM := ((some .int), [(0, .aload_n 0, 1, 1, 0, 0, 0, 0), (1, .getfield 19, 3, 4, 0, 3, 2, 0), (4, .ireturn, 1, 5, 0, 0, 0, 0)])
def k_X3_bestTimes : MM := ((some .int), [(0, .aload_n 0, 1, 1, 0, 0, 0, 0), (1, .getfield 22, 3, 4, 0, 3, 3, 0), (4, .ireturn, 1, 5, 0, 0, 0, 0)])
def k_X3_findBest : MM := ((some .boolean), [(0, .aload_n 0, 1, 1, 0, 0, 0, 0), (1, .aload_n 1, 1, 2, 0, 0, 0, 0), (2, .invokevirtual 25, 3, 5, 1, 51, 2, 3), (5, .aload_n 0, 1, 6, 0, 0, 0, 0), (6, .iconst 0, 1, 7, 0, 0, 0, 0), (7, .putfield 22, 3, 10, 0, 3, 3, 0), (10, .iconst 0, 1, 11, 0, 0, 0, 0), (11, .istore_n 2, 1, 12, 0, 0, 0, 0), (12, .iload_n 2, 1, 13, 0, 0, 0, 0), (13, .iconst 1, 1, 14, 0, 0, 0, 0), (14, .iadd, 1, 15, 0, 0, 0, 0), (15, .aload_n 1, 1, 16, 0, 0, 0, 0), (16, .invokevirtual 29, 3, 19, 1, 65, 1, 6), (19, .if_icmp .ge 59, 3, 22, 78, 0, 0, 0), (22, .aload_n 0, 1, 23, 0, 0, 0, 0), (23, .aload_n 1, 1, 24, 0, 0, 0, 0), (24, .iload_n 2, 1, 25, 0, 0, 0, 0), (25, .invokevirtual 35, 3, 28, 1, 52, 3, 3), (28, .istore_n 3, 1, 29, 0, 0, 0, 0), (29, .aload_n 0, 1, 30, 0, 0, 0, 0), (30, .getfield 9, 3, 33, 0, 3, 0, 0), (33, .iload_n 3, 1, 34, 0, 0, 0, 0), (34, .iaload, 1, 35, 0, 0, 0, 0), (35, .aload_n 0, 1, 36, 0, 0, 0, 0), (36, .getfield 22, 3, 39, 0, 3, 3, 0), (39, .if_icmp .le 33, 3, 42, 72, 0, 0, 0), (42, .aload_n 0, 1, 43, 0, 0, 0, 0), (43, .aload_n 1, 1, 44, 0, 0, 0, 0), (44, .iload_n 2, 1, 45, 0, 0, 0, 0), (45, .invokevirtual 39, 3, 48, 1, 67, 2, 6), (48, .putfield 15, 3, 51, 0, 3, 1, 0), (51, .aload_n 0, 1, 52, 0, 0, 0, 0), (52, .aload_n 1, 1, 53, 0, 0, 0, 0), (53, .iload_n 2, 1, 54, 0, 0, 0, 0), (54, .iconst 1, 1, 55, 0, 0, 0, 0), (55, .iadd, 1, 56, 0, 0, 0, 0), (56, .invokevirtual 39, 3, 59, 1, 67, 2, 6), (59, .putfield 19, 3, 62, 0, 3, 2, 0), (62, .aload_n 0, 1, 63, 0, 0, 0, 0), (63, .aload_n 0, 1, 64, 0, 0, 0, 0), (64, .getfield 9, 3, 67, 0, 3, 0, 0), (67, .iload_n 3, 1, 68, 0, 0, 0, 0), (68, .iaload, 1, 69, 0, 0, 0, 0), (69, .putfield 22, 3, 72, 0, 3, 3, 0), (72, .iinc 2 1, 3, 75, 0, 0, 0, 0), (75, .goto (-63), 3, 78, 12, 0, 0, 0), (78, .aload_n 0, 1, 79, 0, 0, 0, 0), (79, .getfield 22, 3, 82, 0, 3, 3, 0), (82, .ifCond .le 7, 3, 85, 89, 0, 0, 0), (85, .iconst 1, 1, 86, 0, 0, 0, 0), (86, .goto 4, 3, 89, 90, 0, 0, 0), (89, .iconst 0, 1, 90, 0, 0, 0, 0), (90, .ireturn, 1, 91, 0, 0, 0, 0)])
def k_X3_countAll : MM := (none, [(0, .iconst 0, 1, 1, 0, 0, 0, 0), (1, .istore_n 2, 1, 2, 0, 0, 0, 0), (2, .iload_n 2, 1, 3, 0, 0, 0, 0), (3, .iconst 1, 1, 4, 0, 0, 0, 0), (4, .iadd, 1, 5, 0, 0, 0, 0), (5, .aload_n 1, 1, 6, 0, 0, 0, 0), (6, .invokevirtual 29, 3, 9, 1, 65, 1, 6), (9, .if_icmp .ge 21, 3, 12, 30, 0, 0, 0), (12, .aload_n 0, 1, 13, 0, 0, 0, 0), (13, .getfield 9, 3, 16, 0, 3, 0, 0), (16, .aload_n 0, 1, 17, 0, 0, 0, 0), (17, .aload_n 1, 1, 18, 0, 0, 0, 0), (18, .iload_n 2, 1, 19, 0, 0, 0, 0), (19, .invokevirtual 35, 3, 22, 1, 52, 3, 3), (22, .iconst 0, 1, 23, 0, 0, 0, 0), (23, .iastore, 1, 24, 0, 0, 0, 0), (24, .iinc 2 1, 3, 27, 0, 0, 0, 0), (27, .goto (-25), 3, 30, 2, 0, 0, 0), (30, .iconst 0, 1, 31, 0, 0, 0, 0), (31, .istore_n 2, 1, 32, 0, 0, 0, 0), (32, .iconst 0, 1, 33, 0, 0, 0, 0), (33, .istore_n 3, 1, 34, 0, 0, 0, 0), (34, .iload_n 3, 1, 35, 0, 0, 0, 0), (35, .iconst 1, 1, 36, 0, 0, 0, 0), (36, .iadd, 1, 37, 0, 0, 0, 0), (37, .aload_n 1, 1, 38, 0, 0, 0, 0), (38, .invokevirtual 29, 3, 41, 1, 65, 1, 6), (41, .if_icmp .ge 67, 3, 44, 108, 0, 0, 0), (44, .iload_n 2, 1, 45, 0, 0, 0, 0), (45, .ifCond .eq 24, 3, 48, 69, 0, 0, 0), (48, .aload_n 0, 1, 49, 0, 0, 0, 0), (49, .aload_n 1, 1, 50, 0, 0, 0, 0), (50, .iload_n 3, 1, 51, 0, 0, 0, 0), (51, .iconst 1, 1, 52, 0, 0, 0, 0), (52, .isub, 1, 53, 0, 0, 0, 0), (53, .invokevirtual 35, 3, 56, 1, 52, 3, 3), (56, .aload_n 0, 1, 57, 0, 0, 0, 0), (57, .aload_n 1, 1, 58, 0, 0, 0, 0), (58, .iload_n 3, 1, 59, 0, 0, 0, 0), (59, .invokevirtual 35, 3, 62, 1, 52, 3, 3), (62, .if_icmp .ne 7, 3, 65, 69, 0, 0, 0), (65, .iconst 1, 1, 66, 0, 0, 0, 0), (66, .goto 4, 3, 69, 70, 0, 0, 0), (69, .iconst 0, 1, 70, 0, 0, 0, 0), (70, .istore 4, 2, 72, 0, 0, 0, 0), (72, .iload 4, 2, 74, 0, 0, 0, 0), (74, .ifCond .ne 7, 3, 77, 81, 0, 0, 0), (77, .iconst 1, 1, 78, 0, 0, 0, 0), (78, .goto 4, 3, 81, 82, 0, 0, 0), (81, .iconst 0, 1, 82, 0, 0, 0, 0), (82, .istore_n 2, 1, 83, 0, 0, 0, 0), (83, .iload_n 2, 1, 84, 0, 0, 0, 0), (84, .ifCond .eq 18, 3, 87, 102, 0, 0, 0), (87, .aload_n 0, 1, 88, 0, 0, 0, 0), (88, .getfield 9, 3, 91, 0, 3, 0, 0), (91, .aload_n 0, 1, 92, 0, 0, 0, 0), (92, .aload_n 1, 1, 93, 0, 0, 0, 0), (93, .iload_n 3, 1, 94, 0, 0, 0, 0), (94, .invokevirtual 35, 3, 97, 1, 52, 3, 3), (97, .dup2, 1, 98, 0, 0, 0, 0), (98, .iaload, 1, 99, 0, 0, 0, 0), (99, .iconst 1, 1, 100, 0, 0, 0, 0), (100, .iadd, 1, 101, 0, 0, 0, 0), (101, .iastore, 1, 102, 0, 0, 0, 0), (102, .iinc 3 1, 3, 105, 0, 0, 0, 0), (105, .goto (-71), 3, 108, 34, 0, 0, 0), (108, .return_, 1, 109, 0, 0, 0, 0)])
def k_X3_keyAt : MM := ((some .int), [(0, .aload_n 1, 1, 1, 0, 0, 0, 0), (1, .iload_n 2, 1, 2, 0, 0, 0, 0), (2, .invokevirtual 39, 3, 5, 1, 67, 2, 6), (5, .bipush 34, 2, 7, 0, 0, 0, 0), (7, .imul, 1, 8, 0, 0, 0, 0), (8, .aload_n 1, 1, 9, 0, 0, 0, 0), (9, .iload_n 2, 1, 10, 0, 0, 0, 0), (10, .iconst 1, 1, 11, 0, 0, 0, 0), (11, .iadd, 1, 12, 0, 0, 0, 0), (12, .invokevirtual 39, 3, 15, 1, 67, 2, 6), (15, .iadd, 1, 16, 0, 0, 0, 0), (16, .istore_n 3, 1, 17, 0, 0, 0, 0), (17, .iload_n 3, 1, 18, 0, 0, 0, 0), (18, .ifCond .lt 16, 3, 21, 34, 0, 0, 0), (21, .iload_n 3, 1, 22, 0, 0, 0, 0), (22, .aload_n 0, 1, 23, 0, 0, 0, 0), (23, .getfield 9, 3, 26, 0, 3, 0, 0), (26, .arraylength, 1, 27, 0, 0, 0, 0), (27, .if_icmp .ge 7, 3, 30, 34, 0, 0, 0), (30, .iload_n 3, 1, 31, 0, 0, 0, 0), (31, .goto 4, 3, 34, 35, 0, 0, 0), (34, .iconst 0, 1, 35, 0, 0, 0, 0), (35, .ireturn, 1, 36, 0, 0, 0, 0)])
def k_X4_init : MM := (none, [(0, .aload_n 0, 1, 1, 0, 0, 0, 0), (1, .invokespecial 3, 3, 4, 4, 0, 0, 0), (4, .aload_n 0, 1, 5, 0, 0, 0, 0), (5, .iconst 0, 1, 6, 0, 0, 0, 0), (6, .putfield 9, 3, 9, 0, 4, 0, 0), (9, .aload_n 0, 1, 10, 0, 0, 0, 0), (10, .iconst 0, 1, 11, 0, 0, 0, 0), (11, .putfield 15, 3, 14, 0, 4, 1, 0), (14, .return_, 1, 15, 0, 0, 0, 0)])
def k_X4_foundLetter : MM := ((some .int), [(0, .aload_n 0, 1, 1, 0, 0, 0, 0), (1, .getfield 9, 3, 4, 0, 4, 0, 0), (4, .ireturn, 1, 5, 0, 0, 0, 0)])
def k_X4_rulesPassed : MM := ((some .int), [(0, .aload_n 0, 1, 1, 0, 0, 0, 0), (1, .getfield 15, 3, 4, 0, 4, 1, 0), (4, .ireturn, 1, 5, 0, 0, 0, 0)])
def k_X4_follow : MM := (none, [(0, .aload_n 1, 1, 1, 0, 0, 0, 0), (1, .invokevirtual 18, 3, 4, 1, 8, 1, 0), (4, .astore_n 3, 1, 5, 0, 0, 0, 0), (5, .iload_n 2, 1, 6, 0, 0, 0, 0), (6, .istore 4, 2, 8, 0, 0, 0, 0), (8, .aload_n 0, 1, 9, 0, 0, 0, 0), (9, .iconst 0, 1, 10, 0, 0, 0, 0), (10, .putfield 15, 3, 13, 0, 4, 1, 0), (13, .aload_n 0, 1, 14, 0, 0, 0, 0), (14, .getfield 15, 3, 17, 0, 4, 1, 0), (17, .bipush 26, 2, 19, 0, 0, 0, 0), (19, .if_icmp .gt 71, 3, 22, 90, 0, 0, 0), (22, .aload_n 1, 1, 23, 0, 0, 0, 0), (23, .aload_n 3, 1, 24, 0, 0, 0, 0), (24, .iload 4, 2, 26, 0, 0, 0, 0), (26, .invokevirtual 24, 3, 29, 1, 24, 3, 0), (29, .istore 5, 2, 31, 0, 0, 0, 0), (31, .aload_n 0, 1, 32, 0, 0, 0, 0), (32, .aload_n 3, 1, 33, 0, 0, 0, 0), (33, .iload 5, 2, 35, 0, 0, 0, 0), (35, .invokevirtual 28, 3, 38, 1, 67, 2, 6), (38, .putfield 9, 3, 41, 0, 4, 0, 0), (41, .aload_n 1, 1, 42, 0, 0, 0, 0), (42, .aload_n 0, 1, 43, 0, 0, 0, 0), (43, .getfield 9, 3, 46, 0, 4, 0, 0), (46, .invokevirtual 34, 3, 49, 1, 6, 2, 0), (49, .ifCond .ne 4, 3, 52, 53, 0, 0, 0), (52, .return_, 1, 53, 0, 0, 0, 0), (53, .iload 4, 2, 55, 0, 0, 0, 0), (55, .aload_n 1, 1, 56, 0, 0, 0, 0), (56, .aload_n 3, 1, 57, 0, 0, 0, 0), (57, .iload 5, 2, 59, 0, 0, 0, 0), (59, .invokevirtual 38, 3, 62, 1, 23, 3, 0), (62, .isub, 1, 63, 0, 0, 0, 0), (63, .istore 4, 2, 65, 0, 0, 0, 0), (65, .aload_n 1, 1, 66, 0, 0, 0, 0), (66, .aload_n 0, 1, 67, 0, 0, 0, 0), (67, .getfield 9, 3, 70, 0, 4, 0, 0), (70, .bipush 8, 2, 72, 0, 0, 0, 0), (72, .isub, 1, 73, 0, 0, 0, 0), (73, .invokevirtual 41, 3, 76, 1, 9, 2, 0), (76, .astore_n 3, 1, 77, 0, 0, 0, 0), (77, .aload_n 0, 1, 78, 0, 0, 0, 0), (78, .dup, 1, 79, 0, 0, 0, 0), (79, .getfield 15, 3, 82, 0, 4, 1, 0), (82, .iconst 1, 1, 83, 0, 0, 0, 0), (83, .iadd, 1, 84, 0, 0, 0, 0), (84, .putfield 15, 3, 87, 0, 4, 1, 0), (87, .goto (-74), 3, 90, 13, 0, 0, 0), (90, .return_, 1, 91, 0, 0, 0, 0)])
def k_X5_init : MM := (none, [(0, .aload_n 0, 1, 1, 0, 0, 0, 0), (1, .invokespecial 3, 3, 4, 4, 0, 0, 0), (4, .aload_n 0, 1, 5, 0, 0, 0, 0), (5, .new 9, 3, 8, 0, 6, 0, 0), (8, .dup, 1, 9, 0, 0, 0, 0), (9, .invokespecial 11, 3, 12, 3, 64, 1, 0), (12, .putfield 12, 3, 15, 0, 5, 0, 0), (15, .return_, 1, 16, 0, 0, 0, 0)])
def k_X5_read : MM := ((some .int), [(0, .aload_n 2, 1, 1, 0, 0, 0, 0), (1, .invokevirtual 18, 3, 4, 1, 1, 1, 0), (4, .iconst 0, 1, 5, 0, 0, 0, 0), (5, .istore_n 3, 1, 6, 0, 0, 0, 0), (6, .iconst 0, 1, 7, 0, 0, 0, 0), (7, .istore 4, 2, 9, 0, 0, 0, 0), (9, .iload 4, 2, 11, 0, 0, 0, 0), (11, .aload_n 1, 1, 12, 0, 0, 0, 0), (12, .invokevirtual 23, 3, 15, 1, 42, 1, 2), (15, .if_icmp .ge 30, 3, 18, 45, 0, 0, 0), (18, .aload_n 0, 1, 19, 0, 0, 0, 0), (19, .iload_n 3, 1, 20, 0, 0, 0, 0), (20, .aload_n 1, 1, 21, 0, 0, 0, 0), (21, .iload 4, 2, 23, 0, 0, 0, 0), (23, .invokevirtual 29, 3, 26, 1, 43, 2, 2), (26, .aload_n 2, 1, 27, 0, 0, 0, 0), (27, .invokevirtual 33, 3, 30, 1, 59, 4, 5), (30, .istore_n 3, 1, 31, 0, 0, 0, 0), (31, .iload_n 3, 1, 32, 0, 0, 0, 0), (32, .iconst 5, 1, 33, 0, 0, 0, 0), (33, .if_icmp .ne 6, 3, 36, 39, 0, 0, 0), (36, .iload 4, 2, 38, 0, 0, 0, 0), (38, .ireturn, 1, 39, 0, 0, 0, 0), (39, .iinc 4 1, 3, 42, 0, 0, 0, 0), (42, .goto (-33), 3, 45, 9, 0, 0, 0), (45, .aload_n 2, 1, 46, 0, 0, 0, 0), (46, .invokevirtual 37, 3, 49, 1, 20, 1, 0), (49, .iload_n 3, 1, 50, 0, 0, 0, 0), (50, .iconst 4, 1, 51, 0, 0, 0, 0), (51, .if_icmp .ne 8, 3, 54, 59, 0, 0, 0), (54, .bipush (-6), 2, 56, 0, 0, 0, 0), (56, .goto 7, 3, 59, 63, 0, 0, 0), (59, .aload_n 1, 1, 60, 0, 0, 0, 0), (60, .invokevirtual 23, 3, 63, 1, 42, 1, 2), (63, .ireturn, 1, 64, 0, 0, 0, 0)])
def k_X5_next : MM := ((some .int), [(0, .iload_n 1, 1, 1, 0, 0, 0, 0), (1, .tableswitch 88 0 3 #[31, 38, 50, 62], 31, 32, 0, 0, 0, 0), (32, .aload_n 0, 1, 33, 0, 0, 0, 0), (33, .iload_n 2, 1, 34, 0, 0, 0, 0), (34, .aload_n 3, 1, 35, 0, 0, 0, 0), (35, .invokevirtual 40, 3, 38, 1, 60, 3, 5), (38, .ireturn, 1, 39, 0, 0, 0, 0), (39, .iload_n 2, 1, 40, 0, 0, 0, 0), (40, .bipush 61, 2, 42, 0, 0, 0, 0), (42, .if_icmp .ne 7, 3, 45, 49, 0, 0, 0), (45, .iconst 2, 1, 46, 0, 0, 0, 0), (46, .goto 4, 3, 49, 50, 0, 0, 0), (49, .iconst 5, 1, 50, 0, 0, 0, 0), (50, .ireturn, 1, 51, 0, 0, 0, 0), (51, .aload_n 0, 1, 52, 0, 0, 0, 0), (52, .aload_n 0, 1, 53, 0, 0, 0, 0), (53, .getfield 12, 3, 56, 0, 5, 0, 0), (56, .iload_n 2, 1, 57, 0, 0, 0, 0), (57, .aload_n 3, 1, 58, 0, 0, 0, 0), (58, .iconst 3, 1, 59, 0, 0, 0, 0), (59, .invokevirtual 44, 3, 62, 1, 62, 5, 5), (62, .ireturn, 1, 63, 0, 0, 0, 0), (63, .iload_n 2, 1, 64, 0, 0, 0, 0), (64, .bipush 59, 2, 66, 0, 0, 0, 0), (66, .if_icmp .ne 11, 3, 69, 77, 0, 0, 0), (69, .aload_n 0, 1, 70, 0, 0, 0, 0), (70, .aload_n 3, 1, 71, 0, 0, 0, 0), (71, .invokevirtual 48, 3, 74, 1, 61, 2, 5), (74, .goto 14, 3, 77, 88, 0, 0, 0), (77, .aload_n 0, 1, 78, 0, 0, 0, 0), (78, .aload_n 0, 1, 79, 0, 0, 0, 0), (79, .getfield 12, 3, 82, 0, 5, 0, 0), (82, .iload_n 2, 1, 83, 0, 0, 0, 0), (83, .aload_n 3, 1, 84, 0, 0, 0, 0), (84, .iconst 3, 1, 85, 0, 0, 0, 0), (85, .invokevirtual 44, 3, 88, 1, 62, 5, 5), (88, .ireturn, 1, 89, 0, 0, 0, 0), (89, .aload_n 0, 1, 90, 0, 0, 0, 0), (90, .aload_n 3, 1, 91, 0, 0, 0, 0), (91, .invokevirtual 52, 3, 94, 1, 8, 1, 0), (94, .iload_n 2, 1, 95, 0, 0, 0, 0), (95, .aload_n 3, 1, 96, 0, 0, 0, 0), (96, .iconst 4, 1, 97, 0, 0, 0, 0), (97, .invokevirtual 44, 3, 100, 1, 62, 5, 5), (100, .ireturn, 1, 101, 0, 0, 0, 0)])
def k_X5_startRow : MM := ((some .int), [(0, .iload_n 1, 1, 1, 0, 0, 0, 0), (1, .invokestatic 56, 3, 4, 0, 63, 1, 0), (4, .bipush 8, 2, 6, 0, 0, 0, 0), (6, .aload_n 2, 1, 7, 0, 0, 0, 0), (7, .invokevirtual 59, 3, 10, 1, 3, 1, 0), (10, .iadd, 1, 11, 0, 0, 0, 0), (11, .if_icmp .ne 12, 3, 14, 23, 0, 0, 0), (14, .aload_n 0, 1, 15, 0, 0, 0, 0), (15, .getfield 12, 3, 18, 0, 5, 0, 0), (18, .invokevirtual 62, 3, 21, 1, 69, 1, 6), (21, .iconst 1, 1, 22, 0, 0, 0, 0), (22, .ireturn, 1, 23, 0, 0, 0, 0), (23, .aload_n 0, 1, 24, 0, 0, 0, 0), (24, .aload_n 2, 1, 25, 0, 0, 0, 0), (25, .invokevirtual 52, 3, 28, 1, 8, 1, 0), (28, .iload_n 1, 1, 29, 0, 0, 0, 0), (29, .aload_n 2, 1, 30, 0, 0, 0, 0), (30, .iconst 4, 1, 31, 0, 0, 0, 0), (31, .invokevirtual 44, 3, 34, 1, 62, 5, 5), (34, .ireturn, 1, 35, 0, 0, 0, 0)])
def k_X5_endRule : MM := ((some .int), [(0, .aload_n 1, 1, 1, 0, 0, 0, 0), (1, .invokevirtual 63, 3, 4, 1, 31, 1, 0), (4, .aload_n 0, 1, 5, 0, 0, 0, 0), (5, .getfield 12, 3, 8, 0, 5, 0, 0), (8, .invokevirtual 66, 3, 11, 1, 70, 2, 6), (11, .iconst 0, 1, 12, 0, 0, 0, 0), (12, .ireturn, 1, 13, 0, 0, 0, 0)])
def k_X5_grow : MM := ((some .int), [(0, .iload_n 2, 1, 1, 0, 0, 0, 0), (1, .invokestatic 56, 3, 4, 0, 63, 1, 0), (4, .istore 5, 2, 6, 0, 0, 0, 0), (6, .aload_n 3, 1, 7, 0, 0, 0, 0), (7, .iload 5, 2, 9, 0, 0, 0, 0), (9, .invokevirtual 70, 3, 12, 1, 5, 2, 0), (12, .ifCond .eq 17, 3, 15, 29, 0, 0, 0), (15, .aload_n 1, 1, 16, 0, 0, 0, 0), (16, .iload 5, 2, 18, 0, 0, 0, 0), (18, .invokevirtual 74, 3, 21, 1, 71, 2, 6), (21, .ifCond .eq 8, 3, 24, 29, 0, 0, 0), (24, .iload 4, 2, 26, 0, 0, 0, 0), (26, .goto 4, 3, 29, 30, 0, 0, 0), (29, .iconst 5, 1, 30, 0, 0, 0, 0), (30, .ireturn, 1, 31, 0, 0, 0, 0)])
def k_X5_symbolOf : MM := ((some .int), [(0, .iload_n 0, 1, 1, 0, 0, 0, 0), (1, .bipush 97, 2, 3, 0, 0, 0, 0), (3, .if_icmp .lt 14, 3, 6, 17, 0, 0, 0), (6, .iload_n 0, 1, 7, 0, 0, 0, 0), (7, .bipush 105, 2, 9, 0, 0, 0, 0), (9, .if_icmp .ge 8, 3, 12, 17, 0, 0, 0), (12, .iload_n 0, 1, 13, 0, 0, 0, 0), (13, .bipush 97, 2, 15, 0, 0, 0, 0), (15, .isub, 1, 16, 0, 0, 0, 0), (16, .ireturn, 1, 17, 0, 0, 0, 0), (17, .iload_n 0, 1, 18, 0, 0, 0, 0), (18, .bipush 65, 2, 20, 0, 0, 0, 0), (20, .if_icmp .lt 19, 3, 23, 39, 0, 0, 0), (23, .iload_n 0, 1, 24, 0, 0, 0, 0), (24, .bipush 90, 2, 26, 0, 0, 0, 0), (26, .if_icmp .gt 13, 3, 29, 39, 0, 0, 0), (29, .bipush 8, 2, 31, 0, 0, 0, 0), (31, .iload_n 0, 1, 32, 0, 0, 0, 0), (32, .iadd, 1, 33, 0, 0, 0, 0), (33, .bipush 65, 2, 35, 0, 0, 0, 0), (35, .isub, 1, 36, 0, 0, 0, 0), (36, .goto 5, 3, 39, 41, 0, 0, 0), (39, .bipush (-6), 2, 41, 0, 0, 0, 0), (41, .ireturn, 1, 42, 0, 0, 0, 0)])
def k_X6_init : MM := (none, [(0, .aload_n 0, 1, 1, 0, 0, 0, 0), (1, .invokespecial 3, 3, 4, 4, 0, 0, 0), (4, .aload_n 0, 1, 5, 0, 0, 0, 0), (5, .bipush 80, 2, 7, 0, 0, 0, 0), (7, .newarray .int, 2, 9, 0, 0, 0, 0), (9, .putfield 9, 3, 12, 0, 6, 0, 0), (12, .aload_n 0, 1, 13, 0, 0, 0, 0), (13, .iconst 0, 1, 14, 0, 0, 0, 0), (14, .putfield 15, 3, 17, 0, 6, 1, 0), (17, .return_, 1, 18, 0, 0, 0, 0)])
def k_X6_size : MM := ((some .int), [(0, .aload_n 0, 1, 1, 0, 0, 0, 0), (1, .getfield 15, 3, 4, 0, 6, 1, 0), (4, .ireturn, 1, 5, 0, 0, 0, 0)])
def k_X6_has : MM := ((some .boolean), [(0, .iload_n 1, 1, 1, 0, 0, 0, 0), (1, .ifCond .lt 24, 3, 4, 25, 0, 0, 0), (4, .iload_n 1, 1, 5, 0, 0, 0, 0), (5, .aload_n 0, 1, 6, 0, 0, 0, 0), (6, .getfield 15, 3, 9, 0, 6, 1, 0), (9, .if_icmp .ge 16, 3, 12, 25, 0, 0, 0), (12, .iload_n 1, 1, 13, 0, 0, 0, 0), (13, .aload_n 0, 1, 14, 0, 0, 0, 0), (14, .getfield 9, 3, 17, 0, 6, 0, 0), (17, .arraylength, 1, 18, 0, 0, 0, 0), (18, .if_icmp .ge 7, 3, 21, 25, 0, 0, 0), (21, .iconst 1, 1, 22, 0, 0, 0, 0), (22, .goto 4, 3, 25, 26, 0, 0, 0), (25, .iconst 0, 1, 26, 0, 0, 0, 0), (26, .ireturn, 1, 27, 0, 0, 0, 0)])
def k_X6_at : MM := ((some .int), [(0, .aload_n 0, 1, 1, 0, 0, 0, 0), (1, .iload_n 1, 1, 2, 0, 0, 0, 0), (2, .invokevirtual 19, 3, 5, 1, 66, 2, 6), (5, .ifCond .eq 12, 3, 8, 17, 0, 0, 0), (8, .aload_n 0, 1, 9, 0, 0, 0, 0), (9, .getfield 9, 3, 12, 0, 6, 0, 0), (12, .iload_n 1, 1, 13, 0, 0, 0, 0), (13, .iaload, 1, 14, 0, 0, 0, 0), (14, .goto 5, 3, 17, 19, 0, 0, 0), (17, .bipush (-6), 2, 19, 0, 0, 0, 0), (19, .ireturn, 1, 20, 0, 0, 0, 0)])
def k_X6_set : MM := (none, [(0, .aload_n 0, 1, 1, 0, 0, 0, 0), (1, .iload_n 1, 1, 2, 0, 0, 0, 0), (2, .invokevirtual 19, 3, 5, 1, 66, 2, 6), (5, .ifCond .eq 10, 3, 8, 15, 0, 0, 0), (8, .aload_n 0, 1, 9, 0, 0, 0, 0), (9, .getfield 9, 3, 12, 0, 6, 0, 0), (12, .iload_n 1, 1, 13, 0, 0, 0, 0), (13, .iload_n 2, 1, 14, 0, 0, 0, 0), (14, .iastore, 1, 15, 0, 0, 0, 0), (15, .return_, 1, 16, 0, 0, 0, 0)])
def k_X6_clear : MM := (none, [(0, .aload_n 0, 1, 1, 0, 0, 0, 0), (1, .iconst 0, 1, 2, 0, 0, 0, 0), (2, .putfield 15, 3, 5, 0, 6, 1, 0), (5, .return_, 1, 6, 0, 0, 0, 0)])
def k_X6_copy : MM := (none, [(0, .aload_n 0, 1, 1, 0, 0, 0, 0), (1, .aload_n 1, 1, 2, 0, 0, 0, 0), (2, .getfield 15, 3, 5, 0, 6, 1, 0), (5, .putfield 15, 3, 8, 0, 6, 1, 0), (8, .aload_n 1, 1, 9, 0, 0, 0, 0), (9, .getfield 9, 3, 12, 0, 6, 0, 0), (12, .iconst 0, 1, 13, 0, 0, 0, 0), (13, .aload_n 0, 1, 14, 0, 0, 0, 0), (14, .getfield 9, 3, 17, 0, 6, 0, 0), (17, .iconst 0, 1, 18, 0, 0, 0, 0), (18, .aload_n 0, 1, 19, 0, 0, 0, 0), (19, .getfield 15, 3, 22, 0, 6, 1, 0), (22, .invokestatic 23, 3, 25, 5, 0, 0, 0), (25, .return_, 1, 26, 0, 0, 0, 0)])
def k_X6_add : MM := ((some .boolean), [(0, .aload_n 0, 1, 1, 0, 0, 0, 0), (1, .getfield 15, 3, 4, 0, 6, 1, 0), (4, .ifCond .lt 15, 3, 7, 19, 0, 0, 0), (7, .aload_n 0, 1, 8, 0, 0, 0, 0), (8, .getfield 15, 3, 11, 0, 6, 1, 0), (11, .aload_n 0, 1, 12, 0, 0, 0, 0), (12, .getfield 9, 3, 15, 0, 6, 0, 0), (15, .arraylength, 1, 16, 0, 0, 0, 0), (16, .if_icmp .lt 5, 3, 19, 21, 0, 0, 0), (19, .iconst 0, 1, 20, 0, 0, 0, 0), (20, .ireturn, 1, 21, 0, 0, 0, 0), (21, .aload_n 0, 1, 22, 0, 0, 0, 0), (22, .getfield 9, 3, 25, 0, 6, 0, 0), (25, .aload_n 0, 1, 26, 0, 0, 0, 0), (26, .getfield 15, 3, 29, 0, 6, 1, 0), (29, .iload_n 1, 1, 30, 0, 0, 0, 0), (30, .iastore, 1, 31, 0, 0, 0, 0), (31, .aload_n 0, 1, 32, 0, 0, 0, 0), (32, .dup, 1, 33, 0, 0, 0, 0), (33, .getfield 15, 3, 36, 0, 6, 1, 0), (36, .iconst 1, 1, 37, 0, 0, 0, 0), (37, .iadd, 1, 38, 0, 0, 0, 0), (38, .putfield 15, 3, 41, 0, 6, 1, 0), (41, .iconst 1, 1, 42, 0, 0, 0, 0), (42, .ireturn, 1, 43, 0, 0, 0, 0)])
def k_X6_putIn : MM := ((some .boolean), [(0, .aload_n 0, 1, 1, 0, 0, 0, 0), (1, .iload_n 1, 1, 2, 0, 0, 0, 0), (2, .iconst 1, 1, 3, 0, 0, 0, 0), (3, .invokevirtual 29, 3, 6, 1, 75, 3, 6), (6, .ifCond .ne 5, 3, 9, 11, 0, 0, 0), (9, .iconst 0, 1, 10, 0, 0, 0, 0), (10, .ireturn, 1, 11, 0, 0, 0, 0), (11, .aload_n 0, 1, 12, 0, 0, 0, 0), (12, .iload_n 1, 1, 13, 0, 0, 0, 0), (13, .iload_n 2, 1, 14, 0, 0, 0, 0), (14, .invokevirtual 33, 3, 17, 1, 68, 3, 6), (17, .iconst 1, 1, 18, 0, 0, 0, 0), (18, .ireturn, 1, 19, 0, 0, 0, 0)])
def k_X6_takeOut : MM := (none, [(0, .aload_n 0, 1, 1, 0, 0, 0, 0), (1, .iload_n 1, 1, 2, 0, 0, 0, 0), (2, .iconst 1, 1, 3, 0, 0, 0, 0), (3, .iadd, 1, 4, 0, 0, 0, 0), (4, .iconst (-1), 1, 5, 0, 0, 0, 0), (5, .invokevirtual 29, 3, 8, 1, 75, 3, 6), (8, .pop, 1, 9, 0, 0, 0, 0), (9, .return_, 1, 10, 0, 0, 0, 0)])
def k_X6_open : MM := ((some .boolean), [(0, .aload_n 0, 1, 1, 0, 0, 0, 0), (1, .iload_n 1, 1, 2, 0, 0, 0, 0), (2, .invokevirtual 19, 3, 5, 1, 66, 2, 6), (5, .ifCond .eq 19, 3, 8, 24, 0, 0, 0), (8, .aload_n 0, 1, 9, 0, 0, 0, 0), (9, .iload_n 1, 1, 10, 0, 0, 0, 0), (10, .iconst 1, 1, 11, 0, 0, 0, 0), (11, .iadd, 1, 12, 0, 0, 0, 0), (12, .aload_n 2, 1, 13, 0, 0, 0, 0), (13, .getfield 15, 3, 16, 0, 6, 1, 0), (16, .iconst 1, 1, 17, 0, 0, 0, 0), (17, .isub, 1, 18, 0, 0, 0, 0), (18, .invokevirtual 29, 3, 21, 1, 75, 3, 6), (21, .ifCond .ne 5, 3, 24, 26, 0, 0, 0), (24, .iconst 0, 1, 25, 0, 0, 0, 0), (25, .ireturn, 1, 26, 0, 0, 0, 0), (26, .aload_n 2, 1, 27, 0, 0, 0, 0), (27, .getfield 9, 3, 30, 0, 6, 0, 0), (30, .iconst 0, 1, 31, 0, 0, 0, 0), (31, .aload_n 0, 1, 32, 0, 0, 0, 0), (32, .getfield 9, 3, 35, 0, 6, 0, 0), (35, .iload_n 1, 1, 36, 0, 0, 0, 0), (36, .aload_n 2, 1, 37, 0, 0, 0, 0), (37, .getfield 15, 3, 40, 0, 6, 1, 0), (40, .invokestatic 23, 3, 43, 5, 0, 0, 0), (43, .iconst 1, 1, 44, 0, 0, 0, 0), (44, .ireturn, 1, 45, 0, 0, 0, 0)])
def k_X6_shift : MM := ((some .boolean), [(0, .iload_n 1, 1, 1, 0, 0, 0, 0), (1, .ifCond .lt 31, 3, 4, 32, 0, 0, 0), (4, .iload_n 1, 1, 5, 0, 0, 0, 0), (5, .aload_n 0, 1, 6, 0, 0, 0, 0), (6, .getfield 15, 3, 9, 0, 6, 1, 0), (9, .if_icmp .gt 23, 3, 12, 32, 0, 0, 0), (12, .iload_n 1, 1, 13, 0, 0, 0, 0), (13, .iload_n 2, 1, 14, 0, 0, 0, 0), (14, .iadd, 1, 15, 0, 0, 0, 0), (15, .ifCond .lt 17, 3, 18, 32, 0, 0, 0), (18, .aload_n 0, 1, 19, 0, 0, 0, 0), (19, .getfield 15, 3, 22, 0, 6, 1, 0), (22, .iload_n 2, 1, 23, 0, 0, 0, 0), (23, .iadd, 1, 24, 0, 0, 0, 0), (24, .aload_n 0, 1, 25, 0, 0, 0, 0), (25, .getfield 9, 3, 28, 0, 6, 0, 0), (28, .arraylength, 1, 29, 0, 0, 0, 0), (29, .if_icmp .le 5, 3, 32, 34, 0, 0, 0), (32, .iconst 0, 1, 33, 0, 0, 0, 0), (33, .ireturn, 1, 34, 0, 0, 0, 0), (34, .aload_n 0, 1, 35, 0, 0, 0, 0), (35, .getfield 9, 3, 38, 0, 6, 0, 0), (38, .iload_n 1, 1, 39, 0, 0, 0, 0), (39, .aload_n 0, 1, 40, 0, 0, 0, 0), (40, .getfield 9, 3, 43, 0, 6, 0, 0), (43, .iload_n 1, 1, 44, 0, 0, 0, 0), (44, .iload_n 2, 1, 45, 0, 0, 0, 0), (45, .iadd, 1, 46, 0, 0, 0, 0), (46, .aload_n 0, 1, 47, 0, 0, 0, 0), (47, .getfield 15, 3, 50, 0, 6, 1, 0), (50, .iload_n 1, 1, 51, 0, 0, 0, 0), (51, .isub, 1, 52, 0, 0, 0, 0), (52, .invokestatic 23, 3, 55, 5, 0, 0, 0), (55, .aload_n 0, 1, 56, 0, 0, 0, 0), (56, .dup, 1, 57, 0, 0, 0, 0), (57, .getfield 15, 3, 60, 0, 6, 1, 0), (60, .iload_n 2, 1, 61, 0, 0, 0, 0), (61, .iadd, 1, 62, 0, 0, 0, 0), (62, .putfield 15, 3, 65, 0, 6, 1, 0), (65, .iconst 1, 1, 66, 0, 0, 0, 0), (66, .ireturn, 1, 67, 0, 0, 0, 0)])
def k_X6_hasPair : MM := ((some .boolean), [(0, .aload_n 0, 1, 1, 0, 0, 0, 0), (1, .iload_n 1, 1, 2, 0, 0, 0, 0), (2, .iconst 1, 1, 3, 0, 0, 0, 0), (3, .iadd, 1, 4, 0, 0, 0, 0), (4, .invokevirtual 19, 3, 7, 1, 66, 2, 6), (7, .ifCond .eq 27, 3, 10, 34, 0, 0, 0), (10, .aload_n 0, 1, 11, 0, 0, 0, 0), (11, .iload_n 1, 1, 12, 0, 0, 0, 0), (12, .invokevirtual 37, 3, 15, 1, 67, 2, 6), (15, .iload_n 2, 1, 16, 0, 0, 0, 0), (16, .if_icmp .ne 18, 3, 19, 34, 0, 0, 0), (19, .aload_n 0, 1, 20, 0, 0, 0, 0), (20, .iload_n 1, 1, 21, 0, 0, 0, 0), (21, .iconst 1, 1, 22, 0, 0, 0, 0), (22, .iadd, 1, 23, 0, 0, 0, 0), (23, .invokevirtual 37, 3, 26, 1, 67, 2, 6), (26, .iload_n 3, 1, 27, 0, 0, 0, 0), (27, .if_icmp .ne 7, 3, 30, 34, 0, 0, 0), (30, .iconst 1, 1, 31, 0, 0, 0, 0), (31, .goto 4, 3, 34, 35, 0, 0, 0), (34, .iconst 0, 1, 35, 0, 0, 0, 0), (35, .ireturn, 1, 36, 0, 0, 0, 0)])
def k_X6_timesOfPair : MM := ((some .int), [(0, .iconst 0, 1, 1, 0, 0, 0, 0), (1, .istore_n 3, 1, 2, 0, 0, 0, 0), (2, .iconst 0, 1, 3, 0, 0, 0, 0), (3, .istore 4, 2, 5, 0, 0, 0, 0), (5, .iload 4, 2, 7, 0, 0, 0, 0), (7, .aload_n 0, 1, 8, 0, 0, 0, 0), (8, .getfield 15, 3, 11, 0, 6, 1, 0), (11, .if_icmp .ge 44, 3, 14, 55, 0, 0, 0), (14, .aload_n 0, 1, 15, 0, 0, 0, 0), (15, .iload 4, 2, 17, 0, 0, 0, 0), (17, .iload_n 1, 1, 18, 0, 0, 0, 0), (18, .iload_n 2, 1, 19, 0, 0, 0, 0), (19, .invokevirtual 41, 3, 22, 1, 76, 4, 6), (22, .istore 5, 2, 24, 0, 0, 0, 0), (24, .iload 4, 2, 26, 0, 0, 0, 0), (26, .iload 5, 2, 28, 0, 0, 0, 0), (28, .ifCond .eq 7, 3, 31, 35, 0, 0, 0), (31, .iconst 2, 1, 32, 0, 0, 0, 0), (32, .goto 4, 3, 35, 36, 0, 0, 0), (35, .iconst 1, 1, 36, 0, 0, 0, 0), (36, .iadd, 1, 37, 0, 0, 0, 0), (37, .istore 4, 2, 39, 0, 0, 0, 0), (39, .iload_n 3, 1, 40, 0, 0, 0, 0), (40, .iload 5, 2, 42, 0, 0, 0, 0), (42, .ifCond .eq 7, 3, 45, 49, 0, 0, 0), (45, .iconst 1, 1, 46, 0, 0, 0, 0), (46, .goto 4, 3, 49, 50, 0, 0, 0), (49, .iconst 0, 1, 50, 0, 0, 0, 0), (50, .iadd, 1, 51, 0, 0, 0, 0), (51, .istore_n 3, 1, 52, 0, 0, 0, 0), (52, .goto (-47), 3, 55, 5, 0, 0, 0), (55, .iload_n 3, 1, 56, 0, 0, 0, 0), (56, .ireturn, 1, 57, 0, 0, 0, 0)])
def k_X6_foldPair : MM := (none, [(0, .iconst 0, 1, 1, 0, 0, 0, 0), (1, .istore 4, 2, 3, 0, 0, 0, 0), (3, .iconst 0, 1, 4, 0, 0, 0, 0), (4, .istore 5, 2, 6, 0, 0, 0, 0), (6, .iload 4, 2, 8, 0, 0, 0, 0), (8, .aload_n 0, 1, 9, 0, 0, 0, 0), (9, .getfield 15, 3, 12, 0, 6, 1, 0), (12, .if_icmp .ge 55, 3, 15, 67, 0, 0, 0), (15, .aload_n 0, 1, 16, 0, 0, 0, 0), (16, .iload 4, 2, 18, 0, 0, 0, 0), (18, .iload_n 1, 1, 19, 0, 0, 0, 0), (19, .iload_n 2, 1, 20, 0, 0, 0, 0), (20, .invokevirtual 41, 3, 23, 1, 76, 4, 6), (23, .istore 6, 2, 25, 0, 0, 0, 0), (25, .aload_n 0, 1, 26, 0, 0, 0, 0), (26, .iload 5, 2, 28, 0, 0, 0, 0), (28, .iload 6, 2, 30, 0, 0, 0, 0), (30, .ifCond .eq 7, 3, 33, 37, 0, 0, 0), (33, .iload_n 3, 1, 34, 0, 0, 0, 0), (34, .goto 9, 3, 37, 43, 0, 0, 0), (37, .aload_n 0, 1, 38, 0, 0, 0, 0), (38, .iload 4, 2, 40, 0, 0, 0, 0), (40, .invokevirtual 37, 3, 43, 1, 67, 2, 6), (43, .invokevirtual 33, 3, 46, 1, 68, 3, 6), (46, .iload 4, 2, 48, 0, 0, 0, 0), (48, .iload 6, 2, 50, 0, 0, 0, 0), (50, .ifCond .eq 7, 3, 53, 57, 0, 0, 0), (53, .iconst 2, 1, 54, 0, 0, 0, 0), (54, .goto 4, 3, 57, 58, 0, 0, 0), (57, .iconst 1, 1, 58, 0, 0, 0, 0), (58, .iadd, 1, 59, 0, 0, 0, 0), (59, .istore 4, 2, 61, 0, 0, 0, 0), (61, .iinc 5 1, 3, 64, 0, 0, 0, 0), (64, .goto (-58), 3, 67, 6, 0, 0, 0), (67, .aload_n 0, 1, 68, 0, 0, 0, 0), (68, .iload 5, 2, 70, 0, 0, 0, 0), (70, .putfield 15, 3, 73, 0, 6, 1, 0), (73, .return_, 1, 74, 0, 0, 0, 0)])
def k_X6_canUnroll : MM := ((some .boolean), [(0, .aload_n 0, 1, 1, 0, 0, 0, 0), (1, .getfield 15, 3, 4, 0, 6, 1, 0), (4, .istore_n 3, 1, 5, 0, 0, 0, 0), (5, .iconst 0, 1, 6, 0, 0, 0, 0), (6, .istore 4, 2, 8, 0, 0, 0, 0), (8, .iload 4, 2, 10, 0, 0, 0, 0), (10, .aload_n 0, 1, 11, 0, 0, 0, 0), (11, .getfield 15, 3, 14, 0, 6, 1, 0), (14, .if_icmp .ge 28, 3, 17, 42, 0, 0, 0), (17, .aload_n 0, 1, 18, 0, 0, 0, 0), (18, .iload 4, 2, 20, 0, 0, 0, 0), (20, .invokevirtual 37, 3, 23, 1, 67, 2, 6), (23, .iload_n 1, 1, 24, 0, 0, 0, 0), (24, .if_icmp .ne 12, 3, 27, 36, 0, 0, 0), (27, .iload_n 3, 1, 28, 0, 0, 0, 0), (28, .aload_n 2, 1, 29, 0, 0, 0, 0), (29, .getfield 15, 3, 32, 0, 6, 1, 0), (32, .iconst 1, 1, 33, 0, 0, 0, 0), (33, .isub, 1, 34, 0, 0, 0, 0), (34, .iadd, 1, 35, 0, 0, 0, 0), (35, .istore_n 3, 1, 36, 0, 0, 0, 0), (36, .iinc 4 1, 3, 39, 0, 0, 0, 0), (39, .goto (-31), 3, 42, 8, 0, 0, 0), (42, .iload_n 3, 1, 43, 0, 0, 0, 0), (43, .aload_n 0, 1, 44, 0, 0, 0, 0), (44, .getfield 9, 3, 47, 0, 6, 0, 0), (47, .arraylength, 1, 48, 0, 0, 0, 0), (48, .if_icmp .gt 7, 3, 51, 55, 0, 0, 0), (51, .iconst 1, 1, 52, 0, 0, 0, 0), (52, .goto 4, 3, 55, 56, 0, 0, 0), (55, .iconst 0, 1, 56, 0, 0, 0, 0), (56, .ireturn, 1, 57, 0, 0, 0, 0)])
def k_X6_unrollSymbol : MM := (none, [(0, .aload_n 0, 1, 1, 0, 0, 0, 0), (1, .getfield 15, 3, 4, 0, 6, 1, 0), (4, .iconst 1, 1, 5, 0, 0, 0, 0), (5, .isub, 1, 6, 0, 0, 0, 0), (6, .istore_n 3, 1, 7, 0, 0, 0, 0), (7, .iload_n 3, 1, 8, 0, 0, 0, 0), (8, .ifCond .lt 49, 3, 11, 57, 0, 0, 0), (11, .aload_n 0, 1, 12, 0, 0, 0, 0), (12, .iload_n 3, 1, 13, 0, 0, 0, 0), (13, .invokevirtual 37, 3, 16, 1, 67, 2, 6), (16, .iload_n 1, 1, 17, 0, 0, 0, 0), (17, .if_icmp .ne 13, 3, 20, 30, 0, 0, 0), (20, .aload_n 0, 1, 21, 0, 0, 0, 0), (21, .iload_n 3, 1, 22, 0, 0, 0, 0), (22, .aload_n 2, 1, 23, 0, 0, 0, 0), (23, .invokevirtual 45, 3, 26, 1, 74, 3, 6), (26, .pop, 1, 27, 0, 0, 0, 0), (27, .goto 24, 3, 30, 51, 0, 0, 0), (30, .aload_n 0, 1, 31, 0, 0, 0, 0), (31, .iload_n 3, 1, 32, 0, 0, 0, 0), (32, .invokevirtual 37, 3, 35, 1, 67, 2, 6), (35, .iload_n 1, 1, 36, 0, 0, 0, 0), (36, .if_icmp .le 15, 3, 39, 51, 0, 0, 0), (39, .aload_n 0, 1, 40, 0, 0, 0, 0), (40, .iload_n 3, 1, 41, 0, 0, 0, 0), (41, .aload_n 0, 1, 42, 0, 0, 0, 0), (42, .iload_n 3, 1, 43, 0, 0, 0, 0), (43, .invokevirtual 37, 3, 46, 1, 67, 2, 6), (46, .iconst 1, 1, 47, 0, 0, 0, 0), (47, .isub, 1, 48, 0, 0, 0, 0), (48, .invokevirtual 33, 3, 51, 1, 68, 3, 6), (51, .iinc 3 (-1), 3, 54, 0, 0, 0, 0), (54, .goto (-47), 3, 57, 7, 0, 0, 0), (57, .return_, 1, 58, 0, 0, 0, 0)])
def k_X7_init : MM := (none, [(0, .aload_n 0, 1, 1, 0, 0, 0, 0), (1, .invokespecial 3, 3, 4, 4, 0, 0, 0), (4, .aload_n 0, 1, 5, 0, 0, 0, 0), (5, .bipush 34, 2, 7, 0, 0, 0, 0), (7, .newarray .int, 2, 9, 0, 0, 0, 0), (9, .putfield 9, 3, 12, 0, 7, 0, 0), (12, .aload_n 0, 1, 13, 0, 0, 0, 0), (13, .bipush 34, 2, 15, 0, 0, 0, 0), (15, .newarray .int, 2, 17, 0, 0, 0, 0), (17, .putfield 15, 3, 20, 0, 7, 1, 0), (20, .aload_n 0, 1, 21, 0, 0, 0, 0), (21, .iconst 1, 1, 22, 0, 0, 0, 0), (22, .putfield 18, 3, 25, 0, 7, 2, 0), (25, .aload_n 0, 1, 26, 0, 0, 0, 0), (26, .iconst 0, 1, 27, 0, 0, 0, 0), (27, .putfield 22, 3, 30, 0, 7, 3, 0), (30, .return_, 1, 31, 0, 0, 0, 0)])
def k_X7_markOfWord : MM := ((some .int), [(0, .iconst 0, 1, 1, 0, 0, 0, 0), (1, .istore_n 2, 1, 2, 0, 0, 0, 0), (2, .iload_n 2, 1, 3, 0, 0, 0, 0), (3, .bipush 8, 2, 5, 0, 0, 0, 0), (5, .if_icmp .ge 26, 3, 8, 31, 0, 0, 0), (8, .aload_n 0, 1, 9, 0, 0, 0, 0), (9, .getfield 9, 3, 12, 0, 7, 0, 0), (12, .iload_n 2, 1, 13, 0, 0, 0, 0), (13, .bipush 31, 2, 15, 0, 0, 0, 0), (15, .iastore, 1, 16, 0, 0, 0, 0), (16, .aload_n 0, 1, 17, 0, 0, 0, 0), (17, .getfield 15, 3, 20, 0, 7, 1, 0), (20, .iload_n 2, 1, 21, 0, 0, 0, 0), (21, .iload_n 2, 1, 22, 0, 0, 0, 0), (22, .iconst 1, 1, 23, 0, 0, 0, 0), (23, .iadd, 1, 24, 0, 0, 0, 0), (24, .iastore, 1, 25, 0, 0, 0, 0), (25, .iinc 2 1, 3, 28, 0, 0, 0, 0), (28, .goto (-26), 3, 31, 2, 0, 0, 0), (31, .aload_n 0, 1, 32, 0, 0, 0, 0), (32, .aload_n 1, 1, 33, 0, 0, 0, 0), (33, .invokevirtual 25, 3, 36, 1, 84, 2, 7), (36, .aload_n 0, 1, 37, 0, 0, 0, 0), (37, .aload_n 1, 1, 38, 0, 0, 0, 0), (38, .invokevirtual 29, 3, 41, 1, 8, 1, 0), (41, .bipush 7, 2, 43, 0, 0, 0, 0), (43, .invokevirtual 35, 3, 46, 1, 85, 3, 7), (46, .aload_n 0, 1, 47, 0, 0, 0, 0), (47, .getfield 22, 3, 50, 0, 7, 3, 0), (50, .ireturn, 1, 51, 0, 0, 0, 0)])
def k_X7_timesOfLetter : MM := ((some .int), [(0, .iconst 0, 1, 1, 0, 0, 0, 0), (1, .istore_n 3, 1, 2, 0, 0, 0, 0), (2, .iload_n 3, 1, 3, 0, 0, 0, 0), (3, .bipush 8, 2, 5, 0, 0, 0, 0), (5, .if_icmp .ge 32, 3, 8, 37, 0, 0, 0), (8, .aload_n 0, 1, 9, 0, 0, 0, 0), (9, .getfield 9, 3, 12, 0, 7, 0, 0), (12, .iload_n 3, 1, 13, 0, 0, 0, 0), (13, .iconst 1, 1, 14, 0, 0, 0, 0), (14, .iastore, 1, 15, 0, 0, 0, 0), (15, .aload_n 0, 1, 16, 0, 0, 0, 0), (16, .getfield 15, 3, 19, 0, 7, 1, 0), (19, .iload_n 3, 1, 20, 0, 0, 0, 0), (20, .iload_n 3, 1, 21, 0, 0, 0, 0), (21, .iload_n 2, 1, 22, 0, 0, 0, 0), (22, .if_icmp .ne 7, 3, 25, 29, 0, 0, 0), (25, .iconst 1, 1, 26, 0, 0, 0, 0), (26, .goto 4, 3, 29, 30, 0, 0, 0), (29, .iconst 0, 1, 30, 0, 0, 0, 0), (30, .iastore, 1, 31, 0, 0, 0, 0), (31, .iinc 3 1, 3, 34, 0, 0, 0, 0), (34, .goto (-32), 3, 37, 2, 0, 0, 0), (37, .aload_n 0, 1, 38, 0, 0, 0, 0), (38, .aload_n 1, 1, 39, 0, 0, 0, 0), (39, .invokevirtual 25, 3, 42, 1, 84, 2, 7), (42, .aload_n 0, 1, 43, 0, 0, 0, 0), (43, .aload_n 1, 1, 44, 0, 0, 0, 0), (44, .invokevirtual 29, 3, 47, 1, 8, 1, 0), (47, .iconst 0, 1, 48, 0, 0, 0, 0), (48, .invokevirtual 35, 3, 51, 1, 85, 3, 7), (51, .aload_n 0, 1, 52, 0, 0, 0, 0), (52, .getfield 22, 3, 55, 0, 7, 3, 0), (55, .ireturn, 1, 56, 0, 0, 0, 0)])
def k_X7_sumRules : MM := (none, [(0, .iconst 0, 1, 1, 0, 0, 0, 0), (1, .istore_n 2, 1, 2, 0, 0, 0, 0), (2, .iload_n 2, 1, 3, 0, 0, 0, 0), (3, .aload_n 1, 1, 4, 0, 0, 0, 0), (4, .invokevirtual 39, 3, 7, 1, 3, 1, 0), (7, .if_icmp .ge 51, 3, 10, 58, 0, 0, 0), (10, .iload_n 2, 1, 11, 0, 0, 0, 0), (11, .bipush 26, 2, 13, 0, 0, 0, 0), (13, .if_icmp .ge 45, 3, 16, 58, 0, 0, 0), (16, .aload_n 0, 1, 17, 0, 0, 0, 0), (17, .aload_n 1, 1, 18, 0, 0, 0, 0), (18, .iload_n 2, 1, 19, 0, 0, 0, 0), (19, .invokevirtual 43, 3, 22, 1, 9, 2, 0), (22, .iconst 0, 1, 23, 0, 0, 0, 0), (23, .invokevirtual 35, 3, 26, 1, 85, 3, 7), (26, .aload_n 0, 1, 27, 0, 0, 0, 0), (27, .getfield 9, 3, 30, 0, 7, 0, 0), (30, .bipush 8, 2, 32, 0, 0, 0, 0), (32, .iload_n 2, 1, 33, 0, 0, 0, 0), (33, .iadd, 1, 34, 0, 0, 0, 0), (34, .aload_n 0, 1, 35, 0, 0, 0, 0), (35, .getfield 18, 3, 38, 0, 7, 2, 0), (38, .iastore, 1, 39, 0, 0, 0, 0), (39, .aload_n 0, 1, 40, 0, 0, 0, 0), (40, .getfield 15, 3, 43, 0, 7, 1, 0), (43, .bipush 8, 2, 45, 0, 0, 0, 0), (45, .iload_n 2, 1, 46, 0, 0, 0, 0), (46, .iadd, 1, 47, 0, 0, 0, 0), (47, .aload_n 0, 1, 48, 0, 0, 0, 0), (48, .getfield 22, 3, 51, 0, 7, 3, 0), (51, .iastore, 1, 52, 0, 0, 0, 0), (52, .iinc 2 1, 3, 55, 0, 0, 0, 0), (55, .goto (-53), 3, 58, 2, 0, 0, 0), (58, .return_, 1, 59, 0, 0, 0, 0)])
def k_X7_sumRow : MM := (none, [(0, .aload_n 0, 1, 1, 0, 0, 0, 0), (1, .iconst 1, 1, 2, 0, 0, 0, 0), (2, .putfield 18, 3, 5, 0, 7, 2, 0), (5, .aload_n 0, 1, 6, 0, 0, 0, 0), (6, .iload_n 2, 1, 7, 0, 0, 0, 0), (7, .putfield 22, 3, 10, 0, 7, 3, 0), (10, .iconst 0, 1, 11, 0, 0, 0, 0), (11, .istore_n 3, 1, 12, 0, 0, 0, 0), (12, .iload_n 3, 1, 13, 0, 0, 0, 0), (13, .aload_n 1, 1, 14, 0, 0, 0, 0), (14, .invokevirtual 47, 3, 17, 1, 65, 1, 6), (17, .if_icmp .ge 68, 3, 20, 85, 0, 0, 0), (20, .aload_n 1, 1, 21, 0, 0, 0, 0), (21, .iload_n 3, 1, 22, 0, 0, 0, 0), (22, .invokevirtual 52, 3, 25, 1, 67, 2, 6), (25, .istore 4, 2, 27, 0, 0, 0, 0), (27, .iload 4, 2, 29, 0, 0, 0, 0), (29, .ifCond .lt 50, 3, 32, 79, 0, 0, 0), (32, .iload 4, 2, 34, 0, 0, 0, 0), (34, .bipush 34, 2, 36, 0, 0, 0, 0), (36, .if_icmp .ge 43, 3, 39, 79, 0, 0, 0), (39, .aload_n 0, 1, 40, 0, 0, 0, 0), (40, .aload_n 0, 1, 41, 0, 0, 0, 0), (41, .getfield 22, 3, 44, 0, 7, 3, 0), (44, .aload_n 0, 1, 45, 0, 0, 0, 0), (45, .getfield 9, 3, 48, 0, 7, 0, 0), (48, .iload 4, 2, 50, 0, 0, 0, 0), (50, .iaload, 1, 51, 0, 0, 0, 0), (51, .imul, 1, 52, 0, 0, 0, 0), (52, .aload_n 0, 1, 53, 0, 0, 0, 0), (53, .getfield 15, 3, 56, 0, 7, 1, 0), (56, .iload 4, 2, 58, 0, 0, 0, 0), (58, .iaload, 1, 59, 0, 0, 0, 0), (59, .iadd, 1, 60, 0, 0, 0, 0), (60, .putfield 22, 3, 63, 0, 7, 3, 0), (63, .aload_n 0, 1, 64, 0, 0, 0, 0), (64, .dup, 1, 65, 0, 0, 0, 0), (65, .getfield 18, 3, 68, 0, 7, 2, 0), (68, .aload_n 0, 1, 69, 0, 0, 0, 0), (69, .getfield 9, 3, 72, 0, 7, 0, 0), (72, .iload 4, 2, 74, 0, 0, 0, 0), (74, .iaload, 1, 75, 0, 0, 0, 0), (75, .imul, 1, 76, 0, 0, 0, 0), (76, .putfield 18, 3, 79, 0, 7, 2, 0), (79, .iinc 3 1, 3, 82, 0, 0, 0, 0), (82, .goto (-70), 3, 85, 12, 0, 0, 0), (85, .return_, 1, 86, 0, 0, 0, 0)])
def k_X8_init : MM := (none, [(0, .aload_n 0, 1, 1, 0, 0, 0, 0), (1, .invokespecial 3, 3, 4, 4, 0, 0, 0), (4, .aload_n 0, 1, 5, 0, 0, 0, 0), (5, .bipush 27, 2, 7, 0, 0, 0, 0), (7, .newarray .int, 2, 9, 0, 0, 0, 0), (9, .putfield 9, 3, 12, 0, 8, 0, 0), (12, .aload_n 0, 1, 13, 0, 0, 0, 0), (13, .bipush 27, 2, 15, 0, 0, 0, 0), (15, .newarray .int, 2, 17, 0, 0, 0, 0), (17, .putfield 15, 3, 20, 0, 8, 1, 0), (20, .aload_n 0, 1, 21, 0, 0, 0, 0), (21, .iconst 0, 1, 22, 0, 0, 0, 0), (22, .putfield 18, 3, 25, 0, 8, 2, 0), (25, .return_, 1, 26, 0, 0, 0, 0)])
def k_X8_start : MM := (none, [(0, .aload_n 0, 1, 1, 0, 0, 0, 0), (1, .iconst 0, 1, 2, 0, 0, 0, 0), (2, .putfield 18, 3, 5, 0, 8, 2, 0), (5, .aload_n 0, 1, 6, 0, 0, 0, 0), (6, .bipush (-6), 2, 8, 0, 0, 0, 0), (8, .invokevirtual 22, 3, 11, 1, 89, 2, 8), (11, .return_, 1, 12, 0, 0, 0, 0)])
def k_X8_next : MM := ((some .int), [(0, .iconst 0, 1, 1, 0, 0, 0, 0), (1, .istore_n 2, 1, 2, 0, 0, 0, 0), (2, .iload_n 2, 1, 3, 0, 0, 0, 0), (3, .bipush 78, 2, 5, 0, 0, 0, 0), (5, .if_icmp .ge 105, 3, 8, 110, 0, 0, 0), (8, .aload_n 0, 1, 9, 0, 0, 0, 0), (9, .getfield 18, 3, 12, 0, 8, 2, 0), (12, .iconst 1, 1, 13, 0, 0, 0, 0), (13, .isub, 1, 14, 0, 0, 0, 0), (14, .istore_n 3, 1, 15, 0, 0, 0, 0), (15, .iload_n 3, 1, 16, 0, 0, 0, 0), (16, .ifCond .lt 12, 3, 19, 28, 0, 0, 0), (19, .iload_n 3, 1, 20, 0, 0, 0, 0), (20, .aload_n 0, 1, 21, 0, 0, 0, 0), (21, .getfield 9, 3, 24, 0, 8, 0, 0), (24, .arraylength, 1, 25, 0, 0, 0, 0), (25, .if_icmp .lt 6, 3, 28, 31, 0, 0, 0), (28, .bipush (-6), 2, 30, 0, 0, 0, 0), (30, .ireturn, 1, 31, 0, 0, 0, 0), (31, .aload_n 1, 1, 32, 0, 0, 0, 0), (32, .aload_n 0, 1, 33, 0, 0, 0, 0), (33, .getfield 9, 3, 36, 0, 8, 0, 0), (36, .iload_n 3, 1, 37, 0, 0, 0, 0), (37, .iaload, 1, 38, 0, 0, 0, 0), (38, .invokevirtual 26, 3, 41, 1, 9, 2, 0), (41, .aload_n 0, 1, 42, 0, 0, 0, 0), (42, .getfield 15, 3, 45, 0, 8, 1, 0), (45, .iload_n 3, 1, 46, 0, 0, 0, 0), (46, .iaload, 1, 47, 0, 0, 0, 0), (47, .invokevirtual 32, 3, 50, 1, 67, 2, 6), (50, .istore 4, 2, 52, 0, 0, 0, 0), (52, .aload_n 0, 1, 53, 0, 0, 0, 0), (53, .getfield 15, 3, 56, 0, 8, 1, 0), (56, .iload_n 3, 1, 57, 0, 0, 0, 0), (57, .dup2, 1, 58, 0, 0, 0, 0), (58, .iaload, 1, 59, 0, 0, 0, 0), (59, .iconst 1, 1, 60, 0, 0, 0, 0), (60, .iadd, 1, 61, 0, 0, 0, 0), (61, .iastore, 1, 62, 0, 0, 0, 0), (62, .iload 4, 2, 64, 0, 0, 0, 0), (64, .invokestatic 38, 3, 67, 8, 117, 1, 0), (67, .ifCond .eq 6, 3, 70, 73, 0, 0, 0), (70, .iload 4, 2, 72, 0, 0, 0, 0), (72, .ireturn, 1, 73, 0, 0, 0, 0), (73, .aload_n 1, 1, 74, 0, 0, 0, 0), (74, .iload 4, 2, 76, 0, 0, 0, 0), (76, .invokevirtual 42, 3, 79, 1, 6, 2, 0), (79, .ifCond .eq 15, 3, 82, 94, 0, 0, 0), (82, .aload_n 0, 1, 83, 0, 0, 0, 0), (83, .iload 4, 2, 85, 0, 0, 0, 0), (85, .bipush 8, 2, 87, 0, 0, 0, 0), (87, .isub, 1, 88, 0, 0, 0, 0), (88, .invokevirtual 22, 3, 91, 1, 89, 2, 8), (91, .goto 13, 3, 94, 104, 0, 0, 0), (94, .aload_n 0, 1, 95, 0, 0, 0, 0), (95, .dup, 1, 96, 0, 0, 0, 0), (96, .getfield 18, 3, 99, 0, 8, 2, 0), (99, .iconst 1, 1, 100, 0, 0, 0, 0), (100, .isub, 1, 101, 0, 0, 0, 0), (101, .putfield 18, 3, 104, 0, 8, 2, 0), (104, .iinc 2 1, 3, 107, 0, 0, 0, 0), (107, .goto (-105), 3, 110, 2, 0, 0, 0), (110, .bipush (-6), 2, 112, 0, 0, 0, 0), (112, .ireturn, 1, 113, 0, 0, 0, 0)])
def k_X8_enter : MM := (none, [(0, .aload_n 0, 1, 1, 0, 0, 0, 0), (1, .getfield 18, 3, 4, 0, 8, 2, 0), (4, .ifCond .lt 45, 3, 7, 49, 0, 0, 0), (7, .aload_n 0, 1, 8, 0, 0, 0, 0), (8, .getfield 18, 3, 11, 0, 8, 2, 0), (11, .aload_n 0, 1, 12, 0, 0, 0, 0), (12, .getfield 9, 3, 15, 0, 8, 0, 0), (15, .arraylength, 1, 16, 0, 0, 0, 0), (16, .if_icmp .ge 33, 3, 19, 49, 0, 0, 0), (19, .aload_n 0, 1, 20, 0, 0, 0, 0), (20, .getfield 9, 3, 23, 0, 8, 0, 0), (23, .aload_n 0, 1, 24, 0, 0, 0, 0), (24, .getfield 18, 3, 27, 0, 8, 2, 0), (27, .iload_n 1, 1, 28, 0, 0, 0, 0), (28, .iastore, 1, 29, 0, 0, 0, 0), (29, .aload_n 0, 1, 30, 0, 0, 0, 0), (30, .getfield 15, 3, 33, 0, 8, 1, 0), (33, .aload_n 0, 1, 34, 0, 0, 0, 0), (34, .getfield 18, 3, 37, 0, 8, 2, 0), (37, .iconst 0, 1, 38, 0, 0, 0, 0), (38, .iastore, 1, 39, 0, 0, 0, 0), (39, .aload_n 0, 1, 40, 0, 0, 0, 0), (40, .dup, 1, 41, 0, 0, 0, 0), (41, .getfield 18, 3, 44, 0, 8, 2, 0), (44, .iconst 1, 1, 45, 0, 0, 0, 0), (45, .iadd, 1, 46, 0, 0, 0, 0), (46, .putfield 18, 3, 49, 0, 8, 2, 0), (49, .return_, 1, 50, 0, 0, 0, 0)])
def k_X9_init : MM := (none, [(0, .aload_n 0, 1, 1, 0, 0, 0, 0), (1, .invokespecial 3, 3, 4, 4, 0, 0, 0), (4, .aload_n 0, 1, 5, 0, 0, 0, 0), (5, .new 9, 3, 8, 0, 0, 0, 0), (8, .dup, 1, 9, 0, 0, 0, 0), (9, .invokespecial 11, 3, 12, 2, 0, 1, 0), (12, .putfield 12, 3, 15, 0, 9, 0, 0), (15, .aload_n 0, 1, 16, 0, 0, 0, 0), (16, .new 9, 3, 19, 0, 0, 0, 0), (19, .dup, 1, 20, 0, 0, 0, 0), (20, .invokespecial 11, 3, 23, 2, 0, 1, 0), (23, .putfield 16, 3, 26, 0, 9, 1, 0), (26, .aload_n 0, 1, 27, 0, 0, 0, 0), (27, .new 19, 3, 30, 0, 2, 0, 0), (30, .dup, 1, 31, 0, 0, 0, 0), (31, .invokespecial 21, 3, 34, 3, 41, 1, 0), (34, .putfield 22, 3, 37, 0, 9, 2, 0), (37, .aload_n 0, 1, 38, 0, 0, 0, 0), (38, .new 26, 3, 41, 0, 1, 0, 0), (41, .dup, 1, 42, 0, 0, 0, 0), (42, .invokespecial 28, 3, 45, 2, 37, 1, 0), (45, .putfield 29, 3, 48, 0, 9, 3, 0), (48, .aload_n 0, 1, 49, 0, 0, 0, 0), (49, .iconst 2, 1, 50, 0, 0, 0, 0), (50, .anewarray 9, 3, 53, 0, 3, 0, 0), (53, .putfield 33, 3, 56, 0, 9, 4, 0), (56, .aload_n 0, 1, 57, 0, 0, 0, 0), (57, .iconst 2, 1, 58, 0, 0, 0, 0), (58, .newarray .boolean, 2, 60, 0, 0, 0, 0), (60, .putfield 37, 3, 63, 0, 9, 5, 0), (63, .aload_n 0, 1, 64, 0, 0, 0, 0), (64, .new 41, 3, 67, 0, 5, 0, 0), (67, .dup, 1, 68, 0, 0, 0, 0), (68, .invokespecial 43, 3, 71, 3, 57, 1, 0), (71, .putfield 44, 3, 74, 0, 9, 6, 0), (74, .aload_n 0, 1, 75, 0, 0, 0, 0), (75, .new 48, 3, 78, 0, 3, 0, 0), (78, .dup, 1, 79, 0, 0, 0, 0), (79, .invokespecial 50, 3, 82, 3, 46, 1, 0), (82, .putfield 51, 3, 85, 0, 9, 7, 0), (85, .aload_n 0, 1, 86, 0, 0, 0, 0), (86, .new 55, 3, 89, 0, 7, 0, 0), (89, .dup, 1, 90, 0, 0, 0, 0), (90, .invokespecial 57, 3, 93, 3, 81, 1, 0), (93, .putfield 58, 3, 96, 0, 9, 8, 0), (96, .aload_n 0, 1, 97, 0, 0, 0, 0), (97, .new 62, 3, 100, 0, 4, 0, 0), (100, .dup, 1, 101, 0, 0, 0, 0), (101, .invokespecial 64, 3, 104, 3, 53, 1, 0), (104, .putfield 65, 3, 107, 0, 9, 9, 0), (107, .aload_n 0, 1, 108, 0, 0, 0, 0), (108, .new 69, 3, 111, 0, 8, 0, 0), (111, .dup, 1, 112, 0, 0, 0, 0), (112, .invokespecial 71, 3, 115, 3, 86, 1, 0), (115, .putfield 72, 3, 118, 0, 9, 10, 0), (118, .aload_n 0, 1, 119, 0, 0, 0, 0), (119, .new 69, 3, 122, 0, 8, 0, 0), (122, .dup, 1, 123, 0, 0, 0, 0), (123, .invokespecial 71, 3, 126, 3, 86, 1, 0), (126, .putfield 76, 3, 129, 0, 9, 11, 0), (129, .iconst 0, 1, 130, 0, 0, 0, 0), (130, .istore_n 1, 1, 131, 0, 0, 0, 0), (131, .iload_n 1, 1, 132, 0, 0, 0, 0), (132, .aload_n 0, 1, 133, 0, 0, 0, 0), (133, .getfield 33, 3, 136, 0, 9, 4, 0), (136, .arraylength, 1, 137, 0, 0, 0, 0), (137, .if_icmp .ge 22, 3, 140, 159, 0, 0, 0), (140, .aload_n 0, 1, 141, 0, 0, 0, 0), (141, .getfield 33, 3, 144, 0, 9, 4, 0), (144, .iload_n 1, 1, 145, 0, 0, 0, 0), (145, .new 9, 3, 148, 0, 0, 0, 0), (148, .dup, 1, 149, 0, 0, 0, 0), (149, .invokespecial 11, 3, 152, 2, 0, 1, 0), (152, .aastore, 1, 153, 0, 0, 0, 0), (153, .iinc 1 1, 3, 156, 0, 0, 0, 0), (156, .goto (-25), 3, 159, 131, 0, 0, 0), (159, .return_, 1, 160, 0, 0, 0, 0)])
def k_X9_tell : MM := ((some .int), [(0, .aload_n 0, 1, 1, 0, 0, 0, 0), (1, .getfield 44, 3, 4, 0, 9, 6, 0), (4, .aload_n 0, 1, 5, 0, 0, 0, 0), (5, .getfield 22, 3, 8, 0, 9, 2, 0), (8, .aload_n 0, 1, 9, 0, 0, 0, 0), (9, .getfield 16, 3, 12, 0, 9, 1, 0), (12, .invokevirtual 79, 3, 15, 1, 58, 3, 5), (15, .bipush (-6), 2, 17, 0, 0, 0, 0), (17, .if_icmp .eq 6, 3, 20, 23, 0, 0, 0), (20, .bipush (-3), 2, 22, 0, 0, 0, 0), (22, .ireturn, 1, 23, 0, 0, 0, 0), (23, .aload_n 0, 1, 24, 0, 0, 0, 0), (24, .getfield 16, 3, 27, 0, 9, 1, 0), (27, .invokevirtual 83, 3, 30, 1, 19, 1, 0), (30, .ifCond .eq 6, 3, 33, 36, 0, 0, 0), (33, .bipush (-4), 2, 35, 0, 0, 0, 0), (35, .ireturn, 1, 36, 0, 0, 0, 0), (36, .aload_n 0, 1, 37, 0, 0, 0, 0), (37, .getfield 22, 3, 40, 0, 9, 2, 0), (40, .invokevirtual 87, 3, 43, 1, 45, 1, 2), (43, .aload_n 0, 1, 44, 0, 0, 0, 0), (44, .aload_n 0, 1, 45, 0, 0, 0, 0), (45, .getfield 16, 3, 48, 0, 9, 1, 0), (48, .invokevirtual 90, 3, 51, 1, 11, 1, 0), (51, .invokevirtual 94, 3, 54, 1, 116, 2, 9), (54, .ireturn, 1, 55, 0, 0, 0, 0)])
def k_X9_fold : MM := ((some .int), [(0, .iload_n 1, 1, 1, 0, 0, 0, 0), (1, .iconst 1, 1, 2, 0, 0, 0, 0), (2, .if_icmp .lt 9, 3, 5, 11, 0, 0, 0), (5, .iload_n 1, 1, 6, 0, 0, 0, 0), (6, .bipush 26, 2, 8, 0, 0, 0, 0), (8, .if_icmp .le 6, 3, 11, 14, 0, 0, 0), (11, .bipush (-2), 2, 13, 0, 0, 0, 0), (13, .ireturn, 1, 14, 0, 0, 0, 0), (14, .aload_n 0, 1, 15, 0, 0, 0, 0), (15, .getfield 16, 3, 18, 0, 9, 1, 0), (18, .aload_n 0, 1, 19, 0, 0, 0, 0), (19, .getfield 12, 3, 22, 0, 9, 0, 0), (22, .invokevirtual 98, 3, 25, 1, 2, 2, 0), (25, .aload_n 0, 1, 26, 0, 0, 0, 0), (26, .getfield 16, 3, 29, 0, 9, 1, 0), (29, .iload_n 1, 1, 30, 0, 0, 0, 0), (30, .aload_n 0, 1, 31, 0, 0, 0, 0), (31, .getfield 51, 3, 34, 0, 9, 7, 0), (34, .invokevirtual 102, 3, 37, 1, 32, 3, 0), (37, .istore_n 2, 1, 38, 0, 0, 0, 0), (38, .iload_n 2, 1, 39, 0, 0, 0, 0), (39, .ifCond .ne 6, 3, 42, 45, 0, 0, 0), (42, .bipush (-5), 2, 44, 0, 0, 0, 0), (44, .ireturn, 1, 45, 0, 0, 0, 0), (45, .aload_n 0, 1, 46, 0, 0, 0, 0), (46, .iload_n 2, 1, 47, 0, 0, 0, 0), (47, .invokevirtual 94, 3, 50, 1, 116, 2, 9), (50, .ireturn, 1, 51, 0, 0, 0, 0)])
def k_X9_unroll : MM := ((some .int), [(0, .aload_n 0, 1, 1, 0, 0, 0, 0), (1, .getfield 12, 3, 4, 0, 9, 0, 0), (4, .iload_n 1, 1, 5, 0, 0, 0, 0), (5, .invokevirtual 106, 3, 8, 1, 4, 2, 0), (8, .ifCond .ne 5, 3, 11, 13, 0, 0, 0), (11, .iconst (-1), 1, 12, 0, 0, 0, 0), (12, .ireturn, 1, 13, 0, 0, 0, 0), (13, .aload_n 0, 1, 14, 0, 0, 0, 0), (14, .getfield 12, 3, 17, 0, 9, 0, 0), (17, .iload_n 1, 1, 18, 0, 0, 0, 0), (18, .invokevirtual 110, 3, 21, 1, 33, 2, 0), (21, .ifCond .ne 6, 3, 24, 27, 0, 0, 0), (24, .bipush (-4), 2, 26, 0, 0, 0, 0), (26, .ireturn, 1, 27, 0, 0, 0, 0), (27, .aload_n 0, 1, 28, 0, 0, 0, 0), (28, .getfield 16, 3, 31, 0, 9, 1, 0), (31, .aload_n 0, 1, 32, 0, 0, 0, 0), (32, .getfield 12, 3, 35, 0, 9, 0, 0), (35, .invokevirtual 98, 3, 38, 1, 2, 2, 0), (38, .aload_n 0, 1, 39, 0, 0, 0, 0), (39, .getfield 16, 3, 42, 0, 9, 1, 0), (42, .iload_n 1, 1, 43, 0, 0, 0, 0), (43, .invokevirtual 113, 3, 46, 1, 34, 2, 0), (46, .aload_n 0, 1, 47, 0, 0, 0, 0), (47, .aload_n 0, 1, 48, 0, 0, 0, 0), (48, .getfield 12, 3, 51, 0, 9, 0, 0), (51, .iload_n 1, 1, 52, 0, 0, 0, 0), (52, .invokevirtual 117, 3, 55, 1, 14, 2, 0), (55, .invokevirtual 94, 3, 58, 1, 116, 2, 9), (58, .ireturn, 1, 59, 0, 0, 0, 0)])
def k_X9_prune : MM := ((some .int), [(0, .aload_n 0, 1, 1, 0, 0, 0, 0), (1, .getfield 16, 3, 4, 0, 9, 1, 0), (4, .aload_n 0, 1, 5, 0, 0, 0, 0), (5, .getfield 12, 3, 8, 0, 9, 0, 0), (8, .invokevirtual 98, 3, 11, 1, 2, 2, 0), (11, .aload_n 0, 1, 12, 0, 0, 0, 0), (12, .aload_n 0, 1, 13, 0, 0, 0, 0), (13, .getfield 16, 3, 16, 0, 9, 1, 0), (16, .invokevirtual 120, 3, 19, 1, 35, 1, 0), (19, .invokevirtual 94, 3, 22, 1, 116, 2, 9), (22, .ireturn, 1, 23, 0, 0, 0, 0)])
def k_X9_edit : MM := ((some .int), [(0, .aload_n 0, 1, 1, 0, 0, 0, 0), (1, .getfield 12, 3, 4, 0, 9, 0, 0), (4, .iload_n 1, 1, 5, 0, 0, 0, 0), (5, .invokevirtual 123, 3, 8, 1, 7, 2, 0), (8, .ifCond .ne 5, 3, 11, 13, 0, 0, 0), (11, .iconst (-1), 1, 12, 0, 0, 0, 0), (12, .ireturn, 1, 13, 0, 0, 0, 0), (13, .iload_n 2, 1, 14, 0, 0, 0, 0), (14, .invokestatic 126, 3, 17, 0, 117, 1, 0), (17, .ifCond .ne 6, 3, 20, 23, 0, 0, 0), (20, .bipush (-2), 2, 22, 0, 0, 0, 0), (22, .ireturn, 1, 23, 0, 0, 0, 0), (23, .aload_n 0, 1, 24, 0, 0, 0, 0), (24, .getfield 16, 3, 27, 0, 9, 1, 0), (27, .aload_n 0, 1, 28, 0, 0, 0, 0), (28, .getfield 12, 3, 31, 0, 9, 0, 0), (31, .invokevirtual 98, 3, 34, 1, 2, 2, 0), (34, .aload_n 0, 1, 35, 0, 0, 0, 0), (35, .getfield 16, 3, 38, 0, 9, 1, 0), (38, .iload_n 1, 1, 39, 0, 0, 0, 0), (39, .invokevirtual 129, 3, 42, 1, 27, 2, 0), (42, .istore_n 3, 1, 43, 0, 0, 0, 0), (43, .iload_n 3, 1, 44, 0, 0, 0, 0), (44, .ifCond .ge 6, 3, 47, 50, 0, 0, 0), (47, .bipush (-4), 2, 49, 0, 0, 0, 0), (49, .ireturn, 1, 50, 0, 0, 0, 0), (50, .aload_n 0, 1, 51, 0, 0, 0, 0), (51, .getfield 16, 3, 54, 0, 9, 1, 0), (54, .iload_n 3, 1, 55, 0, 0, 0, 0), (55, .invokevirtual 132, 3, 58, 1, 10, 2, 0), (58, .istore 4, 2, 60, 0, 0, 0, 0), (60, .aload_n 0, 1, 61, 0, 0, 0, 0), (61, .getfield 16, 3, 64, 0, 9, 1, 0), (64, .iload_n 3, 1, 65, 0, 0, 0, 0), (65, .iload_n 2, 1, 66, 0, 0, 0, 0), (66, .invokevirtual 135, 3, 69, 1, 28, 3, 0), (69, .aload_n 0, 1, 70, 0, 0, 0, 0), (70, .iload 4, 2, 72, 0, 0, 0, 0), (72, .invokevirtual 94, 3, 75, 1, 116, 2, 9), (75, .ireturn, 1, 76, 0, 0, 0, 0)])
def k_X9_insert : MM := ((some .int), [(0, .iload_n 1, 1, 1, 0, 0, 0, 0), (1, .aload_n 0, 1, 2, 0, 0, 0, 0), (2, .getfield 12, 3, 5, 0, 9, 0, 0), (5, .invokevirtual 90, 3, 8, 1, 11, 1, 0), (8, .if_icmp .eq 16, 3, 11, 24, 0, 0, 0), (11, .aload_n 0, 1, 12, 0, 0, 0, 0), (12, .getfield 12, 3, 15, 0, 9, 0, 0), (15, .iload_n 1, 1, 16, 0, 0, 0, 0), (16, .invokevirtual 123, 3, 19, 1, 7, 2, 0), (19, .ifCond .ne 5, 3, 22, 24, 0, 0, 0), (22, .iconst (-1), 1, 23, 0, 0, 0, 0), (23, .ireturn, 1, 24, 0, 0, 0, 0), (24, .iload_n 2, 1, 25, 0, 0, 0, 0), (25, .invokestatic 126, 3, 28, 0, 117, 1, 0), (28, .ifCond .ne 6, 3, 31, 34, 0, 0, 0), (31, .bipush (-2), 2, 33, 0, 0, 0, 0), (33, .ireturn, 1, 34, 0, 0, 0, 0), (34, .aload_n 0, 1, 35, 0, 0, 0, 0), (35, .getfield 16, 3, 38, 0, 9, 1, 0), (38, .aload_n 0, 1, 39, 0, 0, 0, 0), (39, .getfield 12, 3, 42, 0, 9, 0, 0), (42, .invokevirtual 98, 3, 45, 1, 2, 2, 0), (45, .aload_n 0, 1, 46, 0, 0, 0, 0), (46, .getfield 16, 3, 49, 0, 9, 1, 0), (49, .iload_n 1, 1, 50, 0, 0, 0, 0), (50, .invokevirtual 139, 3, 53, 1, 26, 2, 0), (53, .ifCond .eq 14, 3, 56, 67, 0, 0, 0), (56, .aload_n 0, 1, 57, 0, 0, 0, 0), (57, .getfield 16, 3, 60, 0, 9, 1, 0), (60, .iload_n 1, 1, 61, 0, 0, 0, 0), (61, .invokevirtual 142, 3, 64, 1, 25, 2, 0), (64, .goto 11, 3, 67, 75, 0, 0, 0), (67, .aload_n 0, 1, 68, 0, 0, 0, 0), (68, .getfield 16, 3, 71, 0, 9, 1, 0), (71, .iload_n 1, 1, 72, 0, 0, 0, 0), (72, .invokevirtual 129, 3, 75, 1, 27, 2, 0), (75, .istore_n 3, 1, 76, 0, 0, 0, 0), (76, .iload_n 3, 1, 77, 0, 0, 0, 0), (77, .ifCond .lt 25, 3, 80, 102, 0, 0, 0), (80, .aload_n 0, 1, 81, 0, 0, 0, 0), (81, .getfield 16, 3, 84, 0, 9, 1, 0), (84, .iload_n 3, 1, 85, 0, 0, 0, 0), (85, .iload_n 2, 1, 86, 0, 0, 0, 0), (86, .invokevirtual 145, 3, 89, 1, 29, 3, 0), (89, .ifCond .eq 13, 3, 92, 102, 0, 0, 0), (92, .aload_n 0, 1, 93, 0, 0, 0, 0), (93, .getfield 16, 3, 96, 0, 9, 1, 0), (96, .invokevirtual 83, 3, 99, 1, 19, 1, 0), (99, .ifCond .eq 6, 3, 102, 105, 0, 0, 0), (102, .bipush (-4), 2, 104, 0, 0, 0, 0), (104, .ireturn, 1, 105, 0, 0, 0, 0), (105, .aload_n 0, 1, 106, 0, 0, 0, 0), (106, .aload_n 0, 1, 107, 0, 0, 0, 0), (107, .getfield 16, 3, 110, 0, 9, 1, 0), (110, .invokevirtual 90, 3, 113, 1, 11, 1, 0), (113, .invokevirtual 94, 3, 116, 1, 116, 2, 9), (116, .ireturn, 1, 117, 0, 0, 0, 0)])
def k_X9_delete : MM := ((some .int), [(0, .aload_n 0, 1, 1, 0, 0, 0, 0), (1, .getfield 12, 3, 4, 0, 9, 0, 0), (4, .iload_n 1, 1, 5, 0, 0, 0, 0), (5, .invokevirtual 123, 3, 8, 1, 7, 2, 0), (8, .ifCond .ne 5, 3, 11, 13, 0, 0, 0), (11, .iconst (-1), 1, 12, 0, 0, 0, 0), (12, .ireturn, 1, 13, 0, 0, 0, 0), (13, .aload_n 0, 1, 14, 0, 0, 0, 0), (14, .getfield 16, 3, 17, 0, 9, 1, 0), (17, .aload_n 0, 1, 18, 0, 0, 0, 0), (18, .getfield 12, 3, 21, 0, 9, 0, 0), (21, .invokevirtual 98, 3, 24, 1, 2, 2, 0), (24, .aload_n 0, 1, 25, 0, 0, 0, 0), (25, .getfield 16, 3, 28, 0, 9, 1, 0), (28, .iload_n 1, 1, 29, 0, 0, 0, 0), (29, .invokevirtual 129, 3, 32, 1, 27, 2, 0), (32, .istore_n 2, 1, 33, 0, 0, 0, 0), (33, .iload_n 2, 1, 34, 0, 0, 0, 0), (34, .ifCond .ge 6, 3, 37, 40, 0, 0, 0), (37, .bipush (-4), 2, 39, 0, 0, 0, 0), (39, .ireturn, 1, 40, 0, 0, 0, 0), (40, .aload_n 0, 1, 41, 0, 0, 0, 0), (41, .getfield 16, 3, 44, 0, 9, 1, 0), (44, .iload_n 2, 1, 45, 0, 0, 0, 0), (45, .invokevirtual 132, 3, 48, 1, 10, 2, 0), (48, .istore_n 3, 1, 49, 0, 0, 0, 0), (49, .aload_n 0, 1, 50, 0, 0, 0, 0), (50, .getfield 16, 3, 53, 0, 9, 1, 0), (53, .iload_n 2, 1, 54, 0, 0, 0, 0), (54, .invokevirtual 149, 3, 57, 1, 30, 2, 0), (57, .aload_n 0, 1, 58, 0, 0, 0, 0), (58, .iload_n 3, 1, 59, 0, 0, 0, 0), (59, .invokevirtual 94, 3, 62, 1, 116, 2, 9), (62, .ireturn, 1, 63, 0, 0, 0, 0)])
def k_X9_letter : MM := ((some .int), [(0, .aload_n 0, 1, 1, 0, 0, 0, 0), (1, .getfield 12, 3, 4, 0, 9, 0, 0), (4, .iload_n 1, 1, 5, 0, 0, 0, 0), (5, .invokevirtual 123, 3, 8, 1, 7, 2, 0), (8, .ifCond .ne 5, 3, 11, 13, 0, 0, 0), (11, .iconst (-1), 1, 12, 0, 0, 0, 0), (12, .ireturn, 1, 13, 0, 0, 0, 0), (13, .aload_n 0, 1, 14, 0, 0, 0, 0), (14, .getfield 65, 3, 17, 0, 9, 9, 0), (17, .aload_n 0, 1, 18, 0, 0, 0, 0), (18, .getfield 12, 3, 21, 0, 9, 0, 0), (21, .iload_n 1, 1, 22, 0, 0, 0, 0), (22, .invokevirtual 152, 3, 25, 1, 56, 3, 4), (25, .aload_n 0, 1, 26, 0, 0, 0, 0), (26, .getfield 65, 3, 29, 0, 9, 9, 0), (29, .invokevirtual 156, 3, 32, 1, 54, 1, 4), (32, .ireturn, 1, 33, 0, 0, 0, 0)])
def k_X9_symbol : MM := ((some .int), [(0, .iload_n 1, 1, 1, 0, 0, 0, 0), (1, .bipush (-6), 2, 3, 0, 0, 0, 0), (3, .if_icmp .eq 16, 3, 6, 19, 0, 0, 0), (6, .aload_n 0, 1, 7, 0, 0, 0, 0), (7, .getfield 12, 3, 10, 0, 9, 0, 0), (10, .iload_n 1, 1, 11, 0, 0, 0, 0), (11, .invokevirtual 106, 3, 14, 1, 4, 2, 0), (14, .ifCond .ne 5, 3, 17, 19, 0, 0, 0), (17, .iconst (-1), 1, 18, 0, 0, 0, 0), (18, .ireturn, 1, 19, 0, 0, 0, 0), (19, .aload_n 0, 1, 20, 0, 0, 0, 0), (20, .getfield 12, 3, 23, 0, 9, 0, 0), (23, .iload_n 1, 1, 24, 0, 0, 0, 0), (24, .invokevirtual 159, 3, 27, 1, 9, 2, 0), (27, .astore_n 3, 1, 28, 0, 0, 0, 0), (28, .aload_n 3, 1, 29, 0, 0, 0, 0), (29, .iload_n 2, 1, 30, 0, 0, 0, 0), (30, .invokevirtual 163, 3, 33, 1, 66, 2, 6), (33, .ifCond .eq 11, 3, 36, 44, 0, 0, 0), (36, .aload_n 3, 1, 37, 0, 0, 0, 0), (37, .iload_n 2, 1, 38, 0, 0, 0, 0), (38, .invokevirtual 168, 3, 41, 1, 67, 2, 6), (41, .goto 4, 3, 44, 45, 0, 0, 0), (44, .iconst (-1), 1, 45, 0, 0, 0, 0), (45, .ireturn, 1, 46, 0, 0, 0, 0)])
def k_X9_ofRule : MM := ((some .int), [(0, .aload_n 0, 1, 1, 0, 0, 0, 0), (1, .getfield 12, 3, 4, 0, 9, 0, 0), (4, .iload_n 1, 1, 5, 0, 0, 0, 0), (5, .invokevirtual 106, 3, 8, 1, 4, 2, 0), (8, .ifCond .ne 5, 3, 11, 13, 0, 0, 0), (11, .iconst (-1), 1, 12, 0, 0, 0, 0), (12, .ireturn, 1, 13, 0, 0, 0, 0), (13, .iload_n 2, 1, 14, 0, 0, 0, 0), (14, .tableswitch 69 0 3 #[30, 42, 51, 60], 30, 44, 0, 0, 0, 0), (44, .aload_n 0, 1, 45, 0, 0, 0, 0), (45, .getfield 12, 3, 48, 0, 9, 0, 0), (48, .iload_n 1, 1, 49, 0, 0, 0, 0), (49, .invokevirtual 159, 3, 52, 1, 9, 2, 0), (52, .invokevirtual 171, 3, 55, 1, 65, 1, 6), (55, .ireturn, 1, 56, 0, 0, 0, 0), (56, .aload_n 0, 1, 57, 0, 0, 0, 0), (57, .getfield 12, 3, 60, 0, 9, 0, 0), (60, .iload_n 1, 1, 61, 0, 0, 0, 0), (61, .invokevirtual 174, 3, 64, 1, 12, 2, 0), (64, .ireturn, 1, 65, 0, 0, 0, 0), (65, .aload_n 0, 1, 66, 0, 0, 0, 0), (66, .getfield 12, 3, 69, 0, 9, 0, 0), (69, .iload_n 1, 1, 70, 0, 0, 0, 0), (70, .invokevirtual 117, 3, 73, 1, 14, 2, 0), (73, .ireturn, 1, 74, 0, 0, 0, 0), (74, .aload_n 0, 1, 75, 0, 0, 0, 0), (75, .getfield 12, 3, 78, 0, 9, 0, 0), (78, .iload_n 1, 1, 79, 0, 0, 0, 0), (79, .invokevirtual 177, 3, 82, 1, 13, 2, 0), (82, .ireturn, 1, 83, 0, 0, 0, 0), (83, .bipush (-2), 2, 85, 0, 0, 0, 0), (85, .ireturn, 1, 86, 0, 0, 0, 0)])
def k_X9_count : MM := ((some .int), [(0, .iload_n 1, 1, 1, 0, 0, 0, 0), (1, .tableswitch 114 0 7 #[47, 55, 66, 74, 82, 90, 98, 106], 47, 48, 0, 0, 0, 0), (48, .aload_n 0, 1, 49, 0, 0, 0, 0), (49, .getfield 12, 3, 52, 0, 9, 0, 0), (52, .invokevirtual 90, 3, 55, 1, 11, 1, 0), (55, .ireturn, 1, 56, 0, 0, 0, 0), (56, .aload_n 0, 1, 57, 0, 0, 0, 0), (57, .getfield 12, 3, 60, 0, 9, 0, 0), (60, .invokevirtual 180, 3, 63, 1, 8, 1, 0), (63, .invokevirtual 171, 3, 66, 1, 65, 1, 6), (66, .ireturn, 1, 67, 0, 0, 0, 0), (67, .aload_n 0, 1, 68, 0, 0, 0, 0), (68, .getfield 12, 3, 71, 0, 9, 0, 0), (71, .invokevirtual 184, 3, 74, 1, 3, 1, 0), (74, .ireturn, 1, 75, 0, 0, 0, 0), (75, .aload_n 0, 1, 76, 0, 0, 0, 0), (76, .getfield 12, 3, 79, 0, 9, 0, 0), (79, .invokevirtual 187, 3, 82, 1, 16, 1, 0), (82, .ireturn, 1, 83, 0, 0, 0, 0), (83, .aload_n 0, 1, 84, 0, 0, 0, 0), (84, .getfield 12, 3, 87, 0, 9, 0, 0), (87, .invokevirtual 190, 3, 90, 1, 17, 1, 0), (90, .ireturn, 1, 91, 0, 0, 0, 0), (91, .aload_n 0, 1, 92, 0, 0, 0, 0), (92, .getfield 12, 3, 95, 0, 9, 0, 0), (95, .invokevirtual 193, 3, 98, 1, 18, 1, 0), (98, .ireturn, 1, 99, 0, 0, 0, 0), (99, .aload_n 0, 1, 100, 0, 0, 0, 0), (100, .getfield 22, 3, 103, 0, 9, 2, 0), (103, .invokevirtual 196, 3, 106, 1, 42, 1, 2), (106, .ireturn, 1, 107, 0, 0, 0, 0), (107, .aload_n 0, 1, 108, 0, 0, 0, 0), (108, .getfield 29, 3, 111, 0, 9, 3, 0), (111, .invokevirtual 197, 3, 114, 1, 38, 1, 1), (114, .ireturn, 1, 115, 0, 0, 0, 0), (115, .bipush (-2), 2, 117, 0, 0, 0, 0), (117, .ireturn, 1, 118, 0, 0, 0, 0)])
def k_X9_pair : MM := ((some .int), [(0, .aload_n 0, 1, 1, 0, 0, 0, 0), (1, .getfield 12, 3, 4, 0, 9, 0, 0), (4, .iload_n 1, 1, 5, 0, 0, 0, 0), (5, .invokevirtual 198, 3, 8, 1, 5, 2, 0), (8, .ifCond .eq 14, 3, 11, 22, 0, 0, 0), (11, .aload_n 0, 1, 12, 0, 0, 0, 0), (12, .getfield 12, 3, 15, 0, 9, 0, 0), (15, .iload_n 2, 1, 16, 0, 0, 0, 0), (16, .invokevirtual 198, 3, 19, 1, 5, 2, 0), (19, .ifCond .ne 5, 3, 22, 24, 0, 0, 0), (22, .iconst (-1), 1, 23, 0, 0, 0, 0), (23, .ireturn, 1, 24, 0, 0, 0, 0), (24, .aload_n 0, 1, 25, 0, 0, 0, 0), (25, .getfield 12, 3, 28, 0, 9, 0, 0), (28, .invokevirtual 180, 3, 31, 1, 8, 1, 0), (31, .iload_n 1, 1, 32, 0, 0, 0, 0), (32, .iload_n 2, 1, 33, 0, 0, 0, 0), (33, .invokevirtual 201, 3, 36, 1, 77, 3, 6), (36, .ireturn, 1, 37, 0, 0, 0, 0)])
def k_X9_best : MM := ((some .int), [(0, .iload_n 1, 1, 1, 0, 0, 0, 0), (1, .ifCond .lt 8, 3, 4, 9, 0, 0, 0), (4, .iload_n 1, 1, 5, 0, 0, 0, 0), (5, .iconst 2, 1, 6, 0, 0, 0, 0), (6, .if_icmp .le 6, 3, 9, 12, 0, 0, 0), (9, .bipush (-2), 2, 11, 0, 0, 0, 0), (11, .ireturn, 1, 12, 0, 0, 0, 0), (12, .aload_n 0, 1, 13, 0, 0, 0, 0), (13, .getfield 51, 3, 16, 0, 9, 7, 0), (16, .aload_n 0, 1, 17, 0, 0, 0, 0), (17, .getfield 12, 3, 20, 0, 9, 0, 0), (20, .invokevirtual 180, 3, 23, 1, 8, 1, 0), (23, .invokevirtual 205, 3, 26, 1, 50, 2, 3), (26, .ifCond .ne 6, 3, 29, 32, 0, 0, 0), (29, .bipush (-6), 2, 31, 0, 0, 0, 0), (31, .ireturn, 1, 32, 0, 0, 0, 0), (32, .iload_n 1, 1, 33, 0, 0, 0, 0), (33, .lookupswitch 43 #[(0, 27), (1, 35)], 27, 60, 0, 0, 0, 0), (60, .aload_n 0, 1, 61, 0, 0, 0, 0), (61, .getfield 51, 3, 64, 0, 9, 7, 0), (64, .invokevirtual 209, 3, 67, 1, 47, 1, 3), (67, .ireturn, 1, 68, 0, 0, 0, 0), (68, .aload_n 0, 1, 69, 0, 0, 0, 0), (69, .getfield 51, 3, 72, 0, 9, 7, 0), (72, .invokevirtual 212, 3, 75, 1, 48, 1, 3), (75, .ireturn, 1, 76, 0, 0, 0, 0), (76, .aload_n 0, 1, 77, 0, 0, 0, 0), (77, .getfield 51, 3, 80, 0, 9, 7, 0), (80, .invokevirtual 215, 3, 83, 1, 49, 1, 3), (83, .ireturn, 1, 84, 0, 0, 0, 0)])
def k_X9_ratio : MM := ((some .long), [(0, .aload_n 0, 1, 1, 0, 0, 0, 0), (1, .getfield 12, 3, 4, 0, 9, 0, 0), (4, .invokevirtual 90, 3, 7, 1, 11, 1, 0), (7, .istore_n 1, 1, 8, 0, 0, 0, 0), (8, .iload_n 1, 1, 9, 0, 0, 0, 0), (9, .ifCond .ne 5, 3, 12, 14, 0, 0, 0), (12, .lconst 0, 1, 13, 0, 0, 0, 0), (13, .lreturn, 1, 14, 0, 0, 0, 0), (14, .aload_n 0, 1, 15, 0, 0, 0, 0), (15, .getfield 12, 3, 18, 0, 9, 0, 0), (18, .invokevirtual 187, 3, 21, 1, 16, 1, 0), (21, .i2d, 1, 22, 0, 0, 0, 0), (22, .iload_n 1, 1, 23, 0, 0, 0, 0), (23, .i2d, 1, 24, 0, 0, 0, 0), (24, .ddiv, 1, 25, 0, 0, 0, 0), (25, .bipush 52, 2, 27, 0, 0, 0, 0), (27, .sipush 1023, 3, 30, 0, 0, 0, 0), (30, .invokestatic 218, 3, 33, 0, 121, 3, 0), (33, .lreturn, 1, 34, 0, 0, 0, 0)])
def k_X9_share : MM := ((some .int), [(0, .iload_n 1, 1, 1, 0, 0, 0, 0), (1, .invokestatic 126, 3, 4, 0, 117, 1, 0), (4, .ifCond .ne 5, 3, 7, 9, 0, 0, 0), (7, .iconst (-1), 1, 8, 0, 0, 0, 0), (8, .ireturn, 1, 9, 0, 0, 0, 0), (9, .aload_n 0, 1, 10, 0, 0, 0, 0), (10, .getfield 12, 3, 13, 0, 9, 0, 0), (13, .invokevirtual 90, 3, 16, 1, 11, 1, 0), (16, .istore_n 2, 1, 17, 0, 0, 0, 0), (17, .iload_n 2, 1, 18, 0, 0, 0, 0), (18, .ifCond .ne 5, 3, 21, 23, 0, 0, 0), (21, .iconst 0, 1, 22, 0, 0, 0, 0), (22, .ireturn, 1, 23, 0, 0, 0, 0), (23, .aload_n 0, 1, 24, 0, 0, 0, 0), (24, .getfield 58, 3, 27, 0, 9, 8, 0), (27, .aload_n 0, 1, 28, 0, 0, 0, 0), (28, .getfield 12, 3, 31, 0, 9, 0, 0), (31, .iload_n 1, 1, 32, 0, 0, 0, 0), (32, .invokevirtual 222, 3, 35, 1, 83, 3, 7), (35, .i2f, 1, 36, 0, 0, 0, 0), (36, .iload_n 2, 1, 37, 0, 0, 0, 0), (37, .i2f, 1, 38, 0, 0, 0, 0), (38, .fdiv, 1, 39, 0, 0, 0, 0), (39, .fstore_n 3, 1, 40, 0, 0, 0, 0), (40, .fload_n 3, 1, 41, 0, 0, 0, 0), (41, .f2d, 1, 42, 0, 0, 0, 0), (42, .bipush 23, 2, 44, 0, 0, 0, 0), (44, .bipush 127, 2, 46, 0, 0, 0, 0), (46, .invokestatic 218, 3, 49, 0, 121, 3, 0), (49, .l2i, 1, 50, 0, 0, 0, 0), (50, .ireturn, 1, 51, 0, 0, 0, 0)])
def k_X9_mark : MM := ((some .int), [(0, .aload_n 0, 1, 1, 0, 0, 0, 0), (1, .getfield 58, 3, 4, 0, 9, 8, 0), (4, .aload_n 0, 1, 5, 0, 0, 0, 0), (5, .getfield 12, 3, 8, 0, 9, 0, 0), (8, .invokevirtual 226, 3, 11, 1, 82, 2, 7), (11, .ireturn, 1, 12, 0, 0, 0, 0)])
def k_X9_couldBe : MM := ((some .int), [(0, .aload_n 0, 1, 1, 0, 0, 0, 0), (1, .getfield 16, 3, 4, 0, 9, 1, 0), (4, .aload_n 0, 1, 5, 0, 0, 0, 0), (5, .getfield 12, 3, 8, 0, 9, 0, 0), (8, .invokevirtual 98, 3, 11, 1, 2, 2, 0), (11, .aload_n 0, 1, 12, 0, 0, 0, 0), (12, .getfield 16, 3, 15, 0, 9, 1, 0), (15, .bipush 26, 2, 17, 0, 0, 0, 0), (17, .aload_n 0, 1, 18, 0, 0, 0, 0), (18, .getfield 51, 3, 21, 0, 9, 7, 0), (21, .invokevirtual 102, 3, 24, 1, 32, 3, 0), (24, .pop, 1, 25, 0, 0, 0, 0), (25, .aload_n 0, 1, 26, 0, 0, 0, 0), (26, .getfield 16, 3, 29, 0, 9, 1, 0), (29, .invokevirtual 120, 3, 32, 1, 35, 1, 0), (32, .pop, 1, 33, 0, 0, 0, 0), (33, .aload_n 0, 1, 34, 0, 0, 0, 0), (34, .getfield 16, 3, 37, 0, 9, 1, 0), (37, .invokevirtual 187, 3, 40, 1, 16, 1, 0), (40, .ireturn, 1, 41, 0, 0, 0, 0)])
def k_X9_unlike : MM := ((some .int), [(0, .aload_n 0, 1, 1, 0, 0, 0, 0), (1, .iload_n 1, 1, 2, 0, 0, 0, 0), (2, .invokevirtual 230, 3, 5, 1, 118, 2, 9), (5, .ifCond .ne 6, 3, 8, 11, 0, 0, 0), (8, .bipush (-2), 2, 10, 0, 0, 0, 0), (10, .ireturn, 1, 11, 0, 0, 0, 0), (11, .aload_n 0, 1, 12, 0, 0, 0, 0), (12, .getfield 37, 3, 15, 0, 9, 5, 0), (15, .iload_n 1, 1, 16, 0, 0, 0, 0), (16, .baload, 1, 17, 0, 0, 0, 0), (17, .ifCond .ne 6, 3, 20, 23, 0, 0, 0), (20, .bipush (-5), 2, 22, 0, 0, 0, 0), (22, .ireturn, 1, 23, 0, 0, 0, 0), (23, .aload_n 0, 1, 24, 0, 0, 0, 0), (24, .getfield 72, 3, 27, 0, 9, 10, 0), (27, .invokevirtual 233, 3, 30, 1, 87, 1, 8), (30, .aload_n 0, 1, 31, 0, 0, 0, 0), (31, .getfield 76, 3, 34, 0, 9, 11, 0), (34, .invokevirtual 233, 3, 37, 1, 87, 1, 8), (37, .iconst 0, 1, 38, 0, 0, 0, 0), (38, .istore_n 2, 1, 39, 0, 0, 0, 0), (39, .iload_n 2, 1, 40, 0, 0, 0, 0), (40, .sipush 9999, 3, 43, 0, 0, 0, 0), (43, .if_icmp .gt 49, 3, 46, 92, 0, 0, 0), (46, .aload_n 0, 1, 47, 0, 0, 0, 0), (47, .getfield 72, 3, 50, 0, 9, 10, 0), (50, .aload_n 0, 1, 51, 0, 0, 0, 0), (51, .getfield 12, 3, 54, 0, 9, 0, 0), (54, .invokevirtual 236, 3, 57, 1, 88, 2, 8), (57, .istore_n 3, 1, 58, 0, 0, 0, 0), (58, .iload_n 3, 1, 59, 0, 0, 0, 0), (59, .aload_n 0, 1, 60, 0, 0, 0, 0), (60, .getfield 76, 3, 63, 0, 9, 11, 0), (63, .aload_n 0, 1, 64, 0, 0, 0, 0), (64, .getfield 33, 3, 67, 0, 9, 4, 0), (67, .iload_n 1, 1, 68, 0, 0, 0, 0), (68, .aaload, 1, 69, 0, 0, 0, 0), (69, .invokevirtual 236, 3, 72, 1, 88, 2, 8), (72, .if_icmp .eq 5, 3, 75, 77, 0, 0, 0), (75, .iload_n 2, 1, 76, 0, 0, 0, 0), (76, .ireturn, 1, 77, 0, 0, 0, 0), (77, .iload_n 3, 1, 78, 0, 0, 0, 0), (78, .bipush (-6), 2, 80, 0, 0, 0, 0), (80, .if_icmp .ne 6, 3, 83, 86, 0, 0, 0), (83, .bipush (-6), 2, 85, 0, 0, 0, 0), (85, .ireturn, 1, 86, 0, 0, 0, 0), (86, .iinc 2 1, 3, 89, 0, 0, 0, 0), (89, .goto (-50), 3, 92, 39, 0, 0, 0), (92, .bipush (-6), 2, 94, 0, 0, 0, 0), (94, .ireturn, 1, 95, 0, 0, 0, 0)])
def k_X9_opens : MM := ((some .int), [(0, .aload_n 0, 1, 1, 0, 0, 0, 0), (1, .getfield 12, 3, 4, 0, 9, 0, 0), (4, .iload_n 1, 1, 5, 0, 0, 0, 0), (5, .invokevirtual 123, 3, 8, 1, 7, 2, 0), (8, .ifCond .ne 5, 3, 11, 13, 0, 0, 0), (11, .iconst (-1), 1, 12, 0, 0, 0, 0), (12, .ireturn, 1, 13, 0, 0, 0, 0), (13, .aload_n 0, 1, 14, 0, 0, 0, 0), (14, .getfield 65, 3, 17, 0, 9, 9, 0), (17, .aload_n 0, 1, 18, 0, 0, 0, 0), (18, .getfield 12, 3, 21, 0, 9, 0, 0), (21, .iload_n 1, 1, 22, 0, 0, 0, 0), (22, .invokevirtual 152, 3, 25, 1, 56, 3, 4), (25, .aload_n 0, 1, 26, 0, 0, 0, 0), (26, .getfield 65, 3, 29, 0, 9, 9, 0), (29, .invokevirtual 239, 3, 32, 1, 55, 1, 4), (32, .ireturn, 1, 33, 0, 0, 0, 0)])
def k_X9_put : MM := ((some .int), [(0, .lload_n 1, 1, 1, 0, 0, 0, 0), (1, .invokestatic 242, 3, 4, 0, 120, 1, 0), (4, .istore_n 3, 1, 5, 0, 0, 0, 0), (5, .iload_n 3, 1, 6, 0, 0, 0, 0), (6, .ifCond .ne 6, 3, 9, 12, 0, 0, 0), (9, .bipush (-2), 2, 11, 0, 0, 0, 0), (11, .ireturn, 1, 12, 0, 0, 0, 0), (12, .aload_n 0, 1, 13, 0, 0, 0, 0), (13, .getfield 22, 3, 16, 0, 9, 2, 0), (16, .invokevirtual 196, 3, 19, 1, 42, 1, 2), (19, .iload_n 3, 1, 20, 0, 0, 0, 0), (20, .iadd, 1, 21, 0, 0, 0, 0), (21, .bipush 80, 2, 23, 0, 0, 0, 0), (23, .if_icmp .le 6, 3, 26, 29, 0, 0, 0), (26, .bipush (-4), 2, 28, 0, 0, 0, 0), (28, .ireturn, 1, 29, 0, 0, 0, 0), (29, .iload_n 3, 1, 30, 0, 0, 0, 0), (30, .iconst 1, 1, 31, 0, 0, 0, 0), (31, .isub, 1, 32, 0, 0, 0, 0), (32, .istore 4, 2, 34, 0, 0, 0, 0), (34, .iload 4, 2, 36, 0, 0, 0, 0), (36, .ifCond .lt 22, 3, 39, 58, 0, 0, 0), (39, .aload_n 0, 1, 40, 0, 0, 0, 0), (40, .getfield 22, 3, 43, 0, 9, 2, 0), (43, .lload_n 1, 1, 44, 0, 0, 0, 0), (44, .iload 4, 2, 46, 0, 0, 0, 0), (46, .invokestatic 246, 3, 49, 0, 119, 2, 0), (49, .invokevirtual 250, 3, 52, 1, 44, 2, 2), (52, .iinc 4 (-1), 3, 55, 0, 0, 0, 0), (55, .goto (-21), 3, 58, 34, 0, 0, 0), (58, .aload_n 0, 1, 59, 0, 0, 0, 0), (59, .getfield 22, 3, 62, 0, 9, 2, 0), (62, .invokevirtual 196, 3, 65, 1, 42, 1, 2), (65, .ireturn, 1, 66, 0, 0, 0, 0)])
def k_X9_wipe : MM := ((some .int), [(0, .aload_n 0, 1, 1, 0, 0, 0, 0), (1, .getfield 22, 3, 4, 0, 9, 2, 0), (4, .invokevirtual 196, 3, 7, 1, 42, 1, 2), (7, .istore_n 1, 1, 8, 0, 0, 0, 0), (8, .aload_n 0, 1, 9, 0, 0, 0, 0), (9, .getfield 22, 3, 12, 0, 9, 2, 0), (12, .invokevirtual 87, 3, 15, 1, 45, 1, 2), (15, .iload_n 1, 1, 16, 0, 0, 0, 0), (16, .ireturn, 1, 17, 0, 0, 0, 0)])
def k_X9_fault : MM := ((some .int), [(0, .aload_n 0, 1, 1, 0, 0, 0, 0), (1, .getfield 44, 3, 4, 0, 9, 6, 0), (4, .aload_n 0, 1, 5, 0, 0, 0, 0), (5, .getfield 22, 3, 8, 0, 9, 2, 0), (8, .aload_n 0, 1, 9, 0, 0, 0, 0), (9, .getfield 16, 3, 12, 0, 9, 1, 0), (12, .invokevirtual 79, 3, 15, 1, 58, 3, 5), (15, .ireturn, 1, 16, 0, 0, 0, 0)])
def k_X9_undo : MM := ((some .int), [(0, .aload_n 0, 1, 1, 0, 0, 0, 0), (1, .getfield 29, 3, 4, 0, 9, 3, 0), (4, .invokevirtual 197, 3, 7, 1, 38, 1, 1), (7, .ifCond .ne 6, 3, 10, 13, 0, 0, 0), (10, .bipush (-5), 2, 12, 0, 0, 0, 0), (12, .ireturn, 1, 13, 0, 0, 0, 0), (13, .aload_n 0, 1, 14, 0, 0, 0, 0), (14, .getfield 29, 3, 17, 0, 9, 3, 0), (17, .aload_n 0, 1, 18, 0, 0, 0, 0), (18, .getfield 12, 3, 21, 0, 9, 0, 0), (21, .invokevirtual 253, 3, 24, 1, 40, 2, 1), (24, .aload_n 0, 1, 25, 0, 0, 0, 0), (25, .getfield 29, 3, 28, 0, 9, 3, 0), (28, .invokevirtual 197, 3, 31, 1, 38, 1, 1), (31, .ireturn, 1, 32, 0, 0, 0, 0)])
def k_X9_save : MM := ((some .int), [(0, .aload_n 0, 1, 1, 0, 0, 0, 0), (1, .iload_n 1, 1, 2, 0, 0, 0, 0), (2, .invokevirtual 230, 3, 5, 1, 118, 2, 9), (5, .ifCond .ne 6, 3, 8, 11, 0, 0, 0), (8, .bipush (-2), 2, 10, 0, 0, 0, 0), (10, .ireturn, 1, 11, 0, 0, 0, 0), (11, .aload_n 0, 1, 12, 0, 0, 0, 0), (12, .getfield 33, 3, 15, 0, 9, 4, 0), (15, .iload_n 1, 1, 16, 0, 0, 0, 0), (16, .aaload, 1, 17, 0, 0, 0, 0), (17, .aload_n 0, 1, 18, 0, 0, 0, 0), (18, .getfield 12, 3, 21, 0, 9, 0, 0), (21, .invokevirtual 98, 3, 24, 1, 2, 2, 0), (24, .aload_n 0, 1, 25, 0, 0, 0, 0), (25, .getfield 37, 3, 28, 0, 9, 5, 0), (28, .iload_n 1, 1, 29, 0, 0, 0, 0), (29, .iconst 1, 1, 30, 0, 0, 0, 0), (30, .bastore, 1, 31, 0, 0, 0, 0), (31, .aload_n 0, 1, 32, 0, 0, 0, 0), (32, .getfield 12, 3, 35, 0, 9, 0, 0), (35, .invokevirtual 184, 3, 38, 1, 3, 1, 0), (38, .ireturn, 1, 39, 0, 0, 0, 0)])
def k_X9_restore : MM := ((some .int), [(0, .aload_n 0, 1, 1, 0, 0, 0, 0), (1, .iload_n 1, 1, 2, 0, 0, 0, 0), (2, .invokevirtual 230, 3, 5, 1, 118, 2, 9), (5, .ifCond .ne 6, 3, 8, 11, 0, 0, 0), (8, .bipush (-2), 2, 10, 0, 0, 0, 0), (10, .ireturn, 1, 11, 0, 0, 0, 0), (11, .aload_n 0, 1, 12, 0, 0, 0, 0), (12, .getfield 37, 3, 15, 0, 9, 5, 0), (15, .iload_n 1, 1, 16, 0, 0, 0, 0), (16, .baload, 1, 17, 0, 0, 0, 0), (17, .ifCond .ne 6, 3, 20, 23, 0, 0, 0), (20, .bipush (-5), 2, 22, 0, 0, 0, 0), (22, .ireturn, 1, 23, 0, 0, 0, 0), (23, .aload_n 0, 1, 24, 0, 0, 0, 0), (24, .getfield 16, 3, 27, 0, 9, 1, 0), (27, .aload_n 0, 1, 28, 0, 0, 0, 0), (28, .getfield 33, 3, 31, 0, 9, 4, 0), (31, .iload_n 1, 1, 32, 0, 0, 0, 0), (32, .aaload, 1, 33, 0, 0, 0, 0), (33, .invokevirtual 98, 3, 36, 1, 2, 2, 0), (36, .aload_n 0, 1, 37, 0, 0, 0, 0), (37, .aload_n 0, 1, 38, 0, 0, 0, 0), (38, .getfield 16, 3, 41, 0, 9, 1, 0), (41, .invokevirtual 184, 3, 44, 1, 3, 1, 0), (44, .invokevirtual 94, 3, 47, 1, 116, 2, 9), (47, .ireturn, 1, 48, 0, 0, 0, 0)])
def k_X9_accept : MM := ((some .int), [(0, .aload_n 0, 1, 1, 0, 0, 0, 0), (1, .getfield 29, 3, 4, 0, 9, 3, 0), (4, .aload_n 0, 1, 5, 0, 0, 0, 0), (5, .getfield 12, 3, 8, 0, 9, 0, 0), (8, .invokevirtual 256, 3, 11, 1, 39, 2, 1), (11, .aload_n 0, 1, 12, 0, 0, 0, 0), (12, .getfield 12, 3, 15, 0, 9, 0, 0), (15, .aload_n 0, 1, 16, 0, 0, 0, 0), (16, .getfield 16, 3, 19, 0, 9, 1, 0), (19, .invokevirtual 98, 3, 22, 1, 2, 2, 0), (22, .iload_n 1, 1, 23, 0, 0, 0, 0), (23, .ireturn, 1, 24, 0, 0, 0, 0)])
def k_X9_isLetter : MM := ((some .boolean), [(0, .iload_n 0, 1, 1, 0, 0, 0, 0), (1, .ifCond .lt 13, 3, 4, 14, 0, 0, 0), (4, .iload_n 0, 1, 5, 0, 0, 0, 0), (5, .bipush 8, 2, 7, 0, 0, 0, 0), (7, .if_icmp .ge 7, 3, 10, 14, 0, 0, 0), (10, .iconst 1, 1, 11, 0, 0, 0, 0), (11, .goto 4, 3, 14, 15, 0, 0, 0), (14, .iconst 0, 1, 15, 0, 0, 0, 0), (15, .ireturn, 1, 16, 0, 0, 0, 0)])
def k_X9_isSlot : MM := ((some .boolean), [(0, .iload_n 1, 1, 1, 0, 0, 0, 0), (1, .ifCond .lt 25, 3, 4, 26, 0, 0, 0), (4, .iload_n 1, 1, 5, 0, 0, 0, 0), (5, .aload_n 0, 1, 6, 0, 0, 0, 0), (6, .getfield 33, 3, 9, 0, 9, 4, 0), (9, .arraylength, 1, 10, 0, 0, 0, 0), (10, .if_icmp .ge 16, 3, 13, 26, 0, 0, 0), (13, .iload_n 1, 1, 14, 0, 0, 0, 0), (14, .aload_n 0, 1, 15, 0, 0, 0, 0), (15, .getfield 37, 3, 18, 0, 9, 5, 0), (18, .arraylength, 1, 19, 0, 0, 0, 0), (19, .if_icmp .ge 7, 3, 22, 26, 0, 0, 0), (22, .iconst 1, 1, 23, 0, 0, 0, 0), (23, .goto 4, 3, 26, 27, 0, 0, 0), (26, .iconst 0, 1, 27, 0, 0, 0, 0), (27, .ireturn, 1, 28, 0, 0, 0, 0)])
def k_X9_codeIn : MM := ((some .int), [(0, .lload_n 0, 1, 1, 0, 0, 0, 0), (1, .bipush 8, 2, 3, 0, 0, 0, 0), (3, .iload_n 2, 1, 4, 0, 0, 0, 0), (4, .imul, 1, 5, 0, 0, 0, 0), (5, .lushr, 1, 6, 0, 0, 0, 0), (6, .l2i, 1, 7, 0, 0, 0, 0), (7, .sipush 255, 3, 10, 0, 0, 0, 0), (10, .iand, 1, 11, 0, 0, 0, 0), (11, .ireturn, 1, 12, 0, 0, 0, 0)])
def k_X9_lengthOf : MM := ((some .int), [(0, .iconst 0, 1, 1, 0, 0, 0, 0), (1, .istore_n 2, 1, 2, 0, 0, 0, 0), (2, .iload_n 2, 1, 3, 0, 0, 0, 0), (3, .bipush 8, 2, 5, 0, 0, 0, 0), (5, .if_icmp .ge 50, 3, 8, 55, 0, 0, 0), (8, .lload_n 0, 1, 9, 0, 0, 0, 0), (9, .iload_n 2, 1, 10, 0, 0, 0, 0), (10, .invokestatic 246, 3, 13, 0, 119, 2, 0), (13, .istore_n 3, 1, 14, 0, 0, 0, 0), (14, .iload_n 3, 1, 15, 0, 0, 0, 0), (15, .ifCond .ne 20, 3, 18, 35, 0, 0, 0), (18, .lload_n 0, 1, 19, 0, 0, 0, 0), (19, .bipush 8, 2, 21, 0, 0, 0, 0), (21, .iload_n 2, 1, 22, 0, 0, 0, 0), (22, .imul, 1, 23, 0, 0, 0, 0), (23, .lushr, 1, 24, 0, 0, 0, 0), (24, .lconst 0, 1, 25, 0, 0, 0, 0), (25, .lcmp, 1, 26, 0, 0, 0, 0), (26, .ifCond .ne 7, 3, 29, 33, 0, 0, 0), (29, .iload_n 2, 1, 30, 0, 0, 0, 0), (30, .goto 4, 3, 33, 34, 0, 0, 0), (33, .iconst 0, 1, 34, 0, 0, 0, 0), (34, .ireturn, 1, 35, 0, 0, 0, 0), (35, .iload_n 3, 1, 36, 0, 0, 0, 0), (36, .bipush 33, 2, 38, 0, 0, 0, 0), (38, .if_icmp .lt 9, 3, 41, 47, 0, 0, 0), (41, .iload_n 3, 1, 42, 0, 0, 0, 0), (42, .bipush 126, 2, 44, 0, 0, 0, 0), (44, .if_icmp .le 5, 3, 47, 49, 0, 0, 0), (47, .iconst 0, 1, 48, 0, 0, 0, 0), (48, .ireturn, 1, 49, 0, 0, 0, 0), (49, .iinc 2 1, 3, 52, 0, 0, 0, 0), (52, .goto (-50), 3, 55, 2, 0, 0, 0), (55, .bipush 8, 2, 57, 0, 0, 0, 0), (57, .ireturn, 1, 58, 0, 0, 0, 0)])
def k_X9_bitsOf : MM := ((some .long), [(0, .dload_n 0, 1, 1, 0, 0, 0, 0), (1, .dconst 0, 1, 2, 0, 0, 0, 0), (2, .dcmp .g, 1, 3, 0, 0, 0, 0), (3, .ifCond .gt 5, 3, 6, 8, 0, 0, 0), (6, .lconst 0, 1, 7, 0, 0, 0, 0), (7, .lreturn, 1, 8, 0, 0, 0, 0), (8, .dload_n 0, 1, 9, 0, 0, 0, 0), (9, .dstore 4, 2, 11, 0, 0, 0, 0), (11, .iload_n 3, 1, 12, 0, 0, 0, 0), (12, .istore 6, 2, 14, 0, 0, 0, 0), (14, .iconst 0, 1, 15, 0, 0, 0, 0), (15, .istore 7, 2, 17, 0, 0, 0, 0), (17, .iload 7, 2, 19, 0, 0, 0, 0), (19, .iload_n 3, 1, 20, 0, 0, 0, 0), (20, .if_icmp .ge 29, 3, 23, 49, 0, 0, 0), (23, .dload 4, 2, 25, 0, 0, 0, 0), (25, .ldc2_w 259, 3, 28, 0, 2, 4611686018427387904, 0), (28, .dcmp .l, 1, 29, 0, 0, 0, 0), (29, .ifCond .lt 20, 3, 32, 49, 0, 0, 0), (32, .dload 4, 2, 34, 0, 0, 0, 0), (34, .ldc2_w 259, 3, 37, 0, 2, 4611686018427387904, 0), (37, .ddiv, 1, 38, 0, 0, 0, 0), (38, .dstore 4, 2, 40, 0, 0, 0, 0), (40, .iinc 6 1, 3, 43, 0, 0, 0, 0), (43, .iinc 7 1, 3, 46, 0, 0, 0, 0), (46, .goto (-29), 3, 49, 17, 0, 0, 0), (49, .iconst 0, 1, 50, 0, 0, 0, 0), (50, .istore 7, 2, 52, 0, 0, 0, 0), (52, .iload 7, 2, 54, 0, 0, 0, 0), (54, .iload_n 3, 1, 55, 0, 0, 0, 0), (55, .if_icmp .ge 27, 3, 58, 82, 0, 0, 0), (58, .dload 4, 2, 60, 0, 0, 0, 0), (60, .dconst 1, 1, 61, 0, 0, 0, 0), (61, .dcmp .g, 1, 62, 0, 0, 0, 0), (62, .ifCond .ge 20, 3, 65, 82, 0, 0, 0), (65, .dload 4, 2, 67, 0, 0, 0, 0), (67, .ldc2_w 259, 3, 70, 0, 2, 4611686018427387904, 0), (70, .dmul, 1, 71, 0, 0, 0, 0), (71, .dstore 4, 2, 73, 0, 0, 0, 0), (73, .iinc 6 (-1), 3, 76, 0, 0, 0, 0), (76, .iinc 7 1, 3, 79, 0, 0, 0, 0), (79, .goto (-27), 3, 82, 52, 0, 0, 0), (82, .lconst 1, 1, 83, 0, 0, 0, 0), (83, .iload_n 2, 1, 84, 0, 0, 0, 0), (84, .lshl, 1, 85, 0, 0, 0, 0), (85, .lstore 7, 2, 87, 0, 0, 0, 0), (87, .dload 4, 2, 89, 0, 0, 0, 0), (89, .lload 7, 2, 91, 0, 0, 0, 0), (91, .l2d, 1, 92, 0, 0, 0, 0), (92, .dmul, 1, 93, 0, 0, 0, 0), (93, .d2l, 1, 94, 0, 0, 0, 0), (94, .lload 7, 2, 96, 0, 0, 0, 0), (96, .lsub, 1, 97, 0, 0, 0, 0), (97, .lstore 9, 2, 99, 0, 0, 0, 0), (99, .iload 6, 2, 101, 0, 0, 0, 0), (101, .i2l, 1, 102, 0, 0, 0, 0), (102, .iload_n 2, 1, 103, 0, 0, 0, 0), (103, .lshl, 1, 104, 0, 0, 0, 0), (104, .lload 9, 2, 106, 0, 0, 0, 0), (106, .ladd, 1, 107, 0, 0, 0, 0), (107, .lreturn, 1, 108, 0, 0, 0, 0)])
def k_X10_init : MM := (none, [(0, .aload_n 0, 1, 1, 0, 0, 0, 0), (1, .invokespecial 1, 3, 4, 4, 0, 0, 0), (4, .aload_n 0, 1, 5, 0, 0, 0, 0), (5, .sipush 2188, 3, 8, 0, 0, 0, 0), (8, .newarray .int, 2, 10, 0, 0, 0, 0), (10, .putfield 7, 3, 13, 0, 10, 0, 0), (13, .aload_n 0, 1, 14, 0, 0, 0, 0), (14, .sipush 2188, 3, 17, 0, 0, 0, 0), (17, .newarray .int, 2, 19, 0, 0, 0, 0), (19, .putfield 13, 3, 22, 0, 10, 1, 0), (22, .aload_n 0, 1, 23, 0, 0, 0, 0), (23, .sipush 2188, 3, 26, 0, 0, 0, 0), (26, .newarray .int, 2, 28, 0, 0, 0, 0), (28, .putfield 16, 3, 31, 0, 10, 2, 0), (31, .aload_n 0, 1, 32, 0, 0, 0, 0), (32, .sipush 13128, 3, 35, 0, 0, 0, 0), (35, .newarray .int, 2, 37, 0, 0, 0, 0), (37, .putfield 19, 3, 40, 0, 10, 3, 0), (40, .aload_n 0, 1, 41, 0, 0, 0, 0), (41, .sipush 4376, 3, 44, 0, 0, 0, 0), (44, .newarray .int, 2, 46, 0, 0, 0, 0), (46, .putfield 22, 3, 49, 0, 10, 5, 0), (49, .aload_n 0, 1, 50, 0, 0, 0, 0), (50, .iconst 2, 1, 51, 0, 0, 0, 0), (51, .newarray .int, 2, 53, 0, 0, 0, 0), (53, .putfield 25, 3, 56, 0, 10, 6, 0), (56, .aload_n 0, 1, 57, 0, 0, 0, 0), (57, .bipush 27, 2, 59, 0, 0, 0, 0), (59, .newarray .int, 2, 61, 0, 0, 0, 0), (61, .putfield 28, 3, 64, 0, 10, 7, 0), (64, .aload_n 0, 1, 65, 0, 0, 0, 0), (65, .bipush 26, 2, 67, 0, 0, 0, 0), (67, .newarray .int, 2, 69, 0, 0, 0, 0), (69, .putfield 31, 3, 72, 0, 10, 8, 0), (72, .aload_n 0, 1, 73, 0, 0, 0, 0), (73, .sipush 9999, 3, 76, 0, 0, 0, 0), (76, .newarray .int, 2, 78, 0, 0, 0, 0), (78, .putfield 34, 3, 81, 0, 10, 9, 0), (81, .aload_n 0, 1, 82, 0, 0, 0, 0), (82, .sipush 9999, 3, 85, 0, 0, 0, 0), (85, .newarray .int, 2, 87, 0, 0, 0, 0), (87, .putfield 37, 3, 90, 0, 10, 10, 0), (90, .aload_n 0, 1, 91, 0, 0, 0, 0), (91, .bipush 28, 2, 93, 0, 0, 0, 0), (93, .newarray .int, 2, 95, 0, 0, 0, 0), (95, .putfield 40, 3, 98, 0, 10, 11, 0), (98, .aload_n 0, 1, 99, 0, 0, 0, 0), (99, .bipush 28, 2, 101, 0, 0, 0, 0), (101, .newarray .int, 2, 103, 0, 0, 0, 0), (103, .putfield 43, 3, 106, 0, 10, 12, 0), (106, .aload_n 0, 1, 107, 0, 0, 0, 0), (107, .bipush 80, 2, 109, 0, 0, 0, 0), (109, .newarray .int, 2, 111, 0, 0, 0, 0), (111, .putfield 46, 3, 114, 0, 10, 13, 0), (114, .aload_n 0, 1, 115, 0, 0, 0, 0), (115, .bipush 80, 2, 117, 0, 0, 0, 0), (117, .newarray .int, 2, 119, 0, 0, 0, 0), (119, .putfield 49, 3, 122, 0, 10, 16, 0), (122, .return_, 1, 123, 0, 0, 0, 0)])
def k_X10_in : MM := ((some .boolean), [(0, .lload_n 0, 1, 1, 0, 0, 0, 0), (1, .lload_n 2, 1, 2, 0, 0, 0, 0), (2, .lcmp, 1, 3, 0, 0, 0, 0), (3, .ifCond .lt 14, 3, 6, 17, 0, 0, 0), (6, .lload_n 0, 1, 7, 0, 0, 0, 0), (7, .lload 4, 2, 9, 0, 0, 0, 0), (9, .lcmp, 1, 10, 0, 0, 0, 0), (10, .ifCond .gt 7, 3, 13, 17, 0, 0, 0), (13, .iconst 1, 1, 14, 0, 0, 0, 0), (14, .goto 4, 3, 17, 18, 0, 0, 0), (17, .iconst 0, 1, 18, 0, 0, 0, 0), (18, .ireturn, 1, 19, 0, 0, 0, 0)])
def k_X10_copy : MM := (none, [(0, .iconst 0, 1, 1, 0, 0, 0, 0), (1, .istore_n 2, 1, 2, 0, 0, 0, 0), (2, .iload_n 2, 1, 3, 0, 0, 0, 0), (3, .sipush 2188, 3, 6, 0, 0, 0, 0), (6, .if_icmp .ge 15, 3, 9, 21, 0, 0, 0), (9, .aload_n 1, 1, 10, 0, 0, 0, 0), (10, .iload_n 2, 1, 11, 0, 0, 0, 0), (11, .aload_n 0, 1, 12, 0, 0, 0, 0), (12, .iload_n 2, 1, 13, 0, 0, 0, 0), (13, .iaload, 1, 14, 0, 0, 0, 0), (14, .iastore, 1, 15, 0, 0, 0, 0), (15, .iinc 2 1, 3, 18, 0, 0, 0, 0), (18, .goto (-16), 3, 21, 2, 0, 0, 0), (21, .return_, 1, 22, 0, 0, 0, 0)])
def k_X10_changed : MM := ((some .int), [(0, .aload_n 0, 1, 1, 0, 0, 0, 0), (1, .getfield 52, 3, 4, 0, 10, 4, 0), (4, .bipush 6, 2, 6, 0, 0, 0, 0), (6, .if_icmp .ne 44, 3, 9, 50, 0, 0, 0), (9, .iconst 0, 1, 10, 0, 0, 0, 0), (10, .istore_n 2, 1, 11, 0, 0, 0, 0), (11, .iload_n 2, 1, 12, 0, 0, 0, 0), (12, .sipush 10940, 3, 15, 0, 0, 0, 0), (15, .if_icmp .ge 25, 3, 18, 40, 0, 0, 0), (18, .aload_n 0, 1, 19, 0, 0, 0, 0), (19, .getfield 19, 3, 22, 0, 10, 3, 0), (22, .iload_n 2, 1, 23, 0, 0, 0, 0), (23, .aload_n 0, 1, 24, 0, 0, 0, 0), (24, .getfield 19, 3, 27, 0, 10, 3, 0), (27, .iload_n 2, 1, 28, 0, 0, 0, 0), (28, .sipush 2188, 3, 31, 0, 0, 0, 0), (31, .iadd, 1, 32, 0, 0, 0, 0), (32, .iaload, 1, 33, 0, 0, 0, 0), (33, .iastore, 1, 34, 0, 0, 0, 0), (34, .iinc 2 1, 3, 37, 0, 0, 0, 0), (37, .goto (-26), 3, 40, 11, 0, 0, 0), (40, .aload_n 0, 1, 41, 0, 0, 0, 0), (41, .dup, 1, 42, 0, 0, 0, 0), (42, .getfield 52, 3, 45, 0, 10, 4, 0), (45, .iconst 1, 1, 46, 0, 0, 0, 0), (46, .isub, 1, 47, 0, 0, 0, 0), (47, .putfield 52, 3, 50, 0, 10, 4, 0), (50, .iconst 0, 1, 51, 0, 0, 0, 0), (51, .istore_n 2, 1, 52, 0, 0, 0, 0), (52, .iload_n 2, 1, 53, 0, 0, 0, 0), (53, .sipush 2188, 3, 56, 0, 0, 0, 0), (56, .if_icmp .ge 30, 3, 59, 86, 0, 0, 0), (59, .aload_n 0, 1, 60, 0, 0, 0, 0), (60, .getfield 19, 3, 63, 0, 10, 3, 0), (63, .sipush 2188, 3, 66, 0, 0, 0, 0), (66, .aload_n 0, 1, 67, 0, 0, 0, 0), (67, .getfield 52, 3, 70, 0, 10, 4, 0), (70, .imul, 1, 71, 0, 0, 0, 0), (71, .iload_n 2, 1, 72, 0, 0, 0, 0), (72, .iadd, 1, 73, 0, 0, 0, 0), (73, .aload_n 0, 1, 74, 0, 0, 0, 0), (74, .getfield 13, 3, 77, 0, 10, 1, 0), (77, .iload_n 2, 1, 78, 0, 0, 0, 0), (78, .iaload, 1, 79, 0, 0, 0, 0), (79, .iastore, 1, 80, 0, 0, 0, 0), (80, .iinc 2 1, 3, 83, 0, 0, 0, 0), (83, .goto (-31), 3, 86, 52, 0, 0, 0), (86, .aload_n 0, 1, 87, 0, 0, 0, 0), (87, .dup, 1, 88, 0, 0, 0, 0), (88, .getfield 52, 3, 91, 0, 10, 4, 0), (91, .iconst 1, 1, 92, 0, 0, 0, 0), (92, .iadd, 1, 93, 0, 0, 0, 0), (93, .putfield 52, 3, 96, 0, 10, 4, 0), (96, .iload_n 1, 1, 97, 0, 0, 0, 0), (97, .ireturn, 1, 98, 0, 0, 0, 0)])
def k_X10_rowLong : MM := ((some .int), [(0, .aload_n 0, 1, 1, 0, 0, 0, 0), (1, .getfield 7, 3, 4, 0, 10, 0, 0), (4, .bipush 81, 2, 6, 0, 0, 0, 0), (6, .iload_n 1, 1, 7, 0, 0, 0, 0), (7, .imul, 1, 8, 0, 0, 0, 0), (8, .iaload, 1, 9, 0, 0, 0, 0), (9, .ireturn, 1, 10, 0, 0, 0, 0)])
def k_X10_at : MM := ((some .int), [(0, .aload_n 0, 1, 1, 0, 0, 0, 0), (1, .getfield 7, 3, 4, 0, 10, 0, 0), (4, .bipush 81, 2, 6, 0, 0, 0, 0), (6, .iload_n 1, 1, 7, 0, 0, 0, 0), (7, .imul, 1, 8, 0, 0, 0, 0), (8, .iconst 1, 1, 9, 0, 0, 0, 0), (9, .iadd, 1, 10, 0, 0, 0, 0), (10, .iload_n 2, 1, 11, 0, 0, 0, 0), (11, .iadd, 1, 12, 0, 0, 0, 0), (12, .iaload, 1, 13, 0, 0, 0, 0), (13, .ireturn, 1, 14, 0, 0, 0, 0)])
def k_X10_isRule : MM := ((some .boolean), [(0, .iload_n 1, 1, 1, 0, 0, 0, 0), (1, .i2l, 1, 2, 0, 0, 0, 0), (2, .lconst 0, 1, 3, 0, 0, 0, 0), (3, .aload_n 0, 1, 4, 0, 0, 0, 0), (4, .getfield 7, 3, 7, 0, 10, 0, 0), (7, .sipush 2187, 3, 10, 0, 0, 0, 0), (10, .iaload, 1, 11, 0, 0, 0, 0), (11, .i2l, 1, 12, 0, 0, 0, 0), (12, .lconst 1, 1, 13, 0, 0, 0, 0), (13, .lsub, 1, 14, 0, 0, 0, 0), (14, .invokestatic 56, 3, 17, 0, 123, 3, 0), (17, .ireturn, 1, 18, 0, 0, 0, 0)])
def k_X10_ruleOf : MM := ((some .int), [(0, .iload_n 0, 1, 1, 0, 0, 0, 0), (1, .bipush 8, 2, 3, 0, 0, 0, 0), (3, .isub, 1, 4, 0, 0, 0, 0), (4, .ireturn, 1, 5, 0, 0, 0, 0)])
def k_X10_isLetter : MM := ((some .boolean), [(0, .iload_n 0, 1, 1, 0, 0, 0, 0), (1, .bipush 8, 2, 3, 0, 0, 0, 0), (3, .if_icmp .ge 7, 3, 6, 10, 0, 0, 0), (6, .iconst 1, 1, 7, 0, 0, 0, 0), (7, .goto 4, 3, 10, 11, 0, 0, 0), (10, .iconst 0, 1, 11, 0, 0, 0, 0), (11, .ireturn, 1, 12, 0, 0, 0, 0)])
def k_X10_rowAt : MM := ((some .int), [(0, .iload_n 1, 1, 1, 0, 0, 0, 0), (1, .aload_n 0, 1, 2, 0, 0, 0, 0), (2, .getfield 7, 3, 5, 0, 10, 0, 0), (5, .sipush 2187, 3, 8, 0, 0, 0, 0), (8, .iaload, 1, 9, 0, 0, 0, 0), (9, .if_icmp .ge 7, 3, 12, 16, 0, 0, 0), (12, .iload_n 1, 1, 13, 0, 0, 0, 0), (13, .goto 5, 3, 16, 18, 0, 0, 0), (16, .bipush 26, 2, 18, 0, 0, 0, 0), (18, .ireturn, 1, 19, 0, 0, 0, 0)])
def k_X10_letters : MM := ((some .int), [(0, .iload_n 1, 1, 1, 0, 0, 0, 0), (1, .invokestatic 60, 3, 4, 0, 130, 1, 0), (4, .ifCond .eq 7, 3, 7, 11, 0, 0, 0), (7, .iconst 1, 1, 8, 0, 0, 0, 0), (8, .goto 12, 3, 11, 20, 0, 0, 0), (11, .aload_n 0, 1, 12, 0, 0, 0, 0), (12, .getfield 28, 3, 15, 0, 10, 7, 0), (15, .iload_n 1, 1, 16, 0, 0, 0, 0), (16, .invokestatic 64, 3, 19, 0, 129, 1, 0), (19, .iaload, 1, 20, 0, 0, 0, 0), (20, .ireturn, 1, 21, 0, 0, 0, 0)])
def k_X10_measures : MM := (none, [(0, .iconst 0, 1, 1, 0, 0, 0, 0), (1, .istore_n 1, 1, 2, 0, 0, 0, 0), (2, .iload_n 1, 1, 3, 0, 0, 0, 0), (3, .aload_n 0, 1, 4, 0, 0, 0, 0), (4, .getfield 7, 3, 7, 0, 10, 0, 0), (7, .sipush 2187, 3, 10, 0, 0, 0, 0), (10, .iaload, 1, 11, 0, 0, 0, 0), (11, .if_icmp .gt 70, 3, 14, 81, 0, 0, 0), (14, .aload_n 0, 1, 15, 0, 0, 0, 0), (15, .iload_n 1, 1, 16, 0, 0, 0, 0), (16, .invokevirtual 68, 3, 19, 1, 131, 2, 10), (19, .istore_n 2, 1, 20, 0, 0, 0, 0), (20, .iconst 0, 1, 21, 0, 0, 0, 0), (21, .istore_n 3, 1, 22, 0, 0, 0, 0), (22, .iconst 0, 1, 23, 0, 0, 0, 0), (23, .istore 4, 2, 25, 0, 0, 0, 0), (25, .iload 4, 2, 27, 0, 0, 0, 0), (27, .aload_n 0, 1, 28, 0, 0, 0, 0), (28, .iload_n 2, 1, 29, 0, 0, 0, 0), (29, .invokevirtual 71, 3, 32, 1, 126, 2, 10), (32, .if_icmp .ge 23, 3, 35, 55, 0, 0, 0), (35, .iload_n 3, 1, 36, 0, 0, 0, 0), (36, .aload_n 0, 1, 37, 0, 0, 0, 0), (37, .aload_n 0, 1, 38, 0, 0, 0, 0), (38, .iload_n 2, 1, 39, 0, 0, 0, 0), (39, .iload 4, 2, 41, 0, 0, 0, 0), (41, .invokevirtual 74, 3, 44, 1, 127, 3, 10), (44, .invokevirtual 78, 3, 47, 1, 132, 2, 10), (47, .iadd, 1, 48, 0, 0, 0, 0), (48, .istore_n 3, 1, 49, 0, 0, 0, 0), (49, .iinc 4 1, 3, 52, 0, 0, 0, 0), (52, .goto (-27), 3, 55, 25, 0, 0, 0), (55, .aload_n 0, 1, 56, 0, 0, 0, 0), (56, .getfield 28, 3, 59, 0, 10, 7, 0), (59, .iload_n 2, 1, 60, 0, 0, 0, 0), (60, .iload_n 3, 1, 61, 0, 0, 0, 0), (61, .sipush 9999, 3, 64, 0, 0, 0, 0), (64, .if_icmp .le 9, 3, 67, 73, 0, 0, 0), (67, .sipush 10000, 3, 70, 0, 0, 0, 0), (70, .goto 4, 3, 73, 74, 0, 0, 0), (73, .iload_n 3, 1, 74, 0, 0, 0, 0), (74, .iastore, 1, 75, 0, 0, 0, 0), (75, .iinc 1 1, 3, 78, 0, 0, 0, 0), (78, .goto (-76), 3, 81, 2, 0, 0, 0), (81, .return_, 1, 82, 0, 0, 0, 0)])
def k_X10_wordLong : MM := ((some .int), [(0, .aload_n 0, 1, 1, 0, 0, 0, 0), (1, .invokevirtual 81, 3, 4, 1, 133, 1, 10), (4, .aload_n 0, 1, 5, 0, 0, 0, 0), (5, .getfield 28, 3, 8, 0, 10, 7, 0), (8, .bipush 26, 2, 10, 0, 0, 0, 0), (10, .iaload, 1, 11, 0, 0, 0, 0), (11, .ireturn, 1, 12, 0, 0, 0, 0)])
def k_X10_used : MM := ((some .int), [(0, .iconst 0, 1, 1, 0, 0, 0, 0), (1, .istore_n 2, 1, 2, 0, 0, 0, 0), (2, .iconst 0, 1, 3, 0, 0, 0, 0), (3, .istore_n 3, 1, 4, 0, 0, 0, 0), (4, .iload_n 3, 1, 5, 0, 0, 0, 0), (5, .aload_n 0, 1, 6, 0, 0, 0, 0), (6, .getfield 7, 3, 9, 0, 10, 0, 0), (9, .sipush 2187, 3, 12, 0, 0, 0, 0), (12, .iaload, 1, 13, 0, 0, 0, 0), (13, .if_icmp .gt 59, 3, 16, 72, 0, 0, 0), (16, .aload_n 0, 1, 17, 0, 0, 0, 0), (17, .iload_n 3, 1, 18, 0, 0, 0, 0), (18, .invokevirtual 68, 3, 21, 1, 131, 2, 10), (21, .istore 4, 2, 23, 0, 0, 0, 0), (23, .iconst 0, 1, 24, 0, 0, 0, 0), (24, .istore 5, 2, 26, 0, 0, 0, 0), (26, .iload 5, 2, 28, 0, 0, 0, 0), (28, .aload_n 0, 1, 29, 0, 0, 0, 0), (29, .iload 4, 2, 31, 0, 0, 0, 0), (31, .invokevirtual 71, 3, 34, 1, 126, 2, 10), (34, .if_icmp .ge 32, 3, 37, 66, 0, 0, 0), (37, .iload_n 2, 1, 38, 0, 0, 0, 0), (38, .aload_n 0, 1, 39, 0, 0, 0, 0), (39, .iload 4, 2, 41, 0, 0, 0, 0), (41, .iload 5, 2, 43, 0, 0, 0, 0), (43, .invokevirtual 74, 3, 46, 1, 127, 3, 10), (46, .iload_n 1, 1, 47, 0, 0, 0, 0), (47, .bipush 8, 2, 49, 0, 0, 0, 0), (49, .iadd, 1, 50, 0, 0, 0, 0), (50, .if_icmp .ne 7, 3, 53, 57, 0, 0, 0), (53, .iconst 1, 1, 54, 0, 0, 0, 0), (54, .goto 4, 3, 57, 58, 0, 0, 0), (57, .iconst 0, 1, 58, 0, 0, 0, 0), (58, .iadd, 1, 59, 0, 0, 0, 0), (59, .istore_n 2, 1, 60, 0, 0, 0, 0), (60, .iinc 5 1, 3, 63, 0, 0, 0, 0), (63, .goto (-37), 3, 66, 26, 0, 0, 0), (66, .iinc 3 1, 3, 69, 0, 0, 0, 0), (69, .goto (-65), 3, 72, 4, 0, 0, 0), (72, .iload_n 2, 1, 73, 0, 0, 0, 0), (73, .ireturn, 1, 74, 0, 0, 0, 0)])
def k_X10_digs : MM := (none, [(0, .iconst 0, 1, 1, 0, 0, 0, 0), (1, .istore_n 1, 1, 2, 0, 0, 0, 0), (2, .iload_n 1, 1, 3, 0, 0, 0, 0), (3, .aload_n 0, 1, 4, 0, 0, 0, 0), (4, .getfield 7, 3, 7, 0, 10, 0, 0), (7, .sipush 2187, 3, 10, 0, 0, 0, 0), (10, .iaload, 1, 11, 0, 0, 0, 0), (11, .if_icmp .ge 94, 3, 14, 105, 0, 0, 0), (14, .aload_n 0, 1, 15, 0, 0, 0, 0), (15, .getfield 31, 3, 18, 0, 10, 8, 0), (18, .iload_n 1, 1, 19, 0, 0, 0, 0), (19, .iconst 1, 1, 20, 0, 0, 0, 0), (20, .iastore, 1, 21, 0, 0, 0, 0), (21, .iconst 0, 1, 22, 0, 0, 0, 0), (22, .istore_n 2, 1, 23, 0, 0, 0, 0), (23, .iload_n 2, 1, 24, 0, 0, 0, 0), (24, .aload_n 0, 1, 25, 0, 0, 0, 0), (25, .iload_n 1, 1, 26, 0, 0, 0, 0), (26, .invokevirtual 71, 3, 29, 1, 126, 2, 10), (29, .if_icmp .ge 70, 3, 32, 99, 0, 0, 0), (32, .aload_n 0, 1, 33, 0, 0, 0, 0), (33, .iload_n 1, 1, 34, 0, 0, 0, 0), (34, .iload_n 2, 1, 35, 0, 0, 0, 0), (35, .invokevirtual 74, 3, 38, 1, 127, 3, 10), (38, .istore_n 3, 1, 39, 0, 0, 0, 0), (39, .iload_n 3, 1, 40, 0, 0, 0, 0), (40, .invokestatic 60, 3, 43, 0, 130, 1, 0), (43, .ifCond .eq 7, 3, 46, 50, 0, 0, 0), (46, .iconst 0, 1, 47, 0, 0, 0, 0), (47, .goto 12, 3, 50, 59, 0, 0, 0), (50, .aload_n 0, 1, 51, 0, 0, 0, 0), (51, .getfield 31, 3, 54, 0, 10, 8, 0), (54, .iload_n 3, 1, 55, 0, 0, 0, 0), (55, .invokestatic 64, 3, 58, 0, 129, 1, 0), (58, .iaload, 1, 59, 0, 0, 0, 0), (59, .istore 4, 2, 61, 0, 0, 0, 0), (61, .aload_n 0, 1, 62, 0, 0, 0, 0), (62, .getfield 31, 3, 65, 0, 10, 8, 0), (65, .iload_n 1, 1, 66, 0, 0, 0, 0), (66, .iload 4, 2, 68, 0, 0, 0, 0), (68, .iconst 1, 1, 69, 0, 0, 0, 0), (69, .iadd, 1, 70, 0, 0, 0, 0), (70, .aload_n 0, 1, 71, 0, 0, 0, 0), (71, .getfield 31, 3, 74, 0, 10, 8, 0), (74, .iload_n 1, 1, 75, 0, 0, 0, 0), (75, .iaload, 1, 76, 0, 0, 0, 0), (76, .if_icmp .le 10, 3, 79, 86, 0, 0, 0), (79, .iload 4, 2, 81, 0, 0, 0, 0), (81, .iconst 1, 1, 82, 0, 0, 0, 0), (82, .iadd, 1, 83, 0, 0, 0, 0), (83, .goto 9, 3, 86, 92, 0, 0, 0), (86, .aload_n 0, 1, 87, 0, 0, 0, 0), (87, .getfield 31, 3, 90, 0, 10, 8, 0), (90, .iload_n 1, 1, 91, 0, 0, 0, 0), (91, .iaload, 1, 92, 0, 0, 0, 0), (92, .iastore, 1, 93, 0, 0, 0, 0), (93, .iinc 2 1, 3, 96, 0, 0, 0, 0), (96, .goto (-73), 3, 99, 23, 0, 0, 0), (99, .iinc 1 1, 3, 102, 0, 0, 0, 0), (102, .goto (-100), 3, 105, 2, 0, 0, 0), (105, .return_, 1, 106, 0, 0, 0, 0)])
def k_X10_size : MM := ((some .int), [(0, .iconst 0, 1, 1, 0, 0, 0, 0), (1, .istore_n 1, 1, 2, 0, 0, 0, 0), (2, .iconst 0, 1, 3, 0, 0, 0, 0), (3, .istore_n 2, 1, 4, 0, 0, 0, 0), (4, .iload_n 2, 1, 5, 0, 0, 0, 0), (5, .aload_n 0, 1, 6, 0, 0, 0, 0), (6, .getfield 7, 3, 9, 0, 10, 0, 0), (9, .sipush 2187, 3, 12, 0, 0, 0, 0), (12, .iaload, 1, 13, 0, 0, 0, 0), (13, .if_icmp .gt 21, 3, 16, 34, 0, 0, 0), (16, .iload_n 1, 1, 17, 0, 0, 0, 0), (17, .aload_n 0, 1, 18, 0, 0, 0, 0), (18, .aload_n 0, 1, 19, 0, 0, 0, 0), (19, .iload_n 2, 1, 20, 0, 0, 0, 0), (20, .invokevirtual 68, 3, 23, 1, 131, 2, 10), (23, .invokevirtual 71, 3, 26, 1, 126, 2, 10), (26, .iadd, 1, 27, 0, 0, 0, 0), (27, .istore_n 1, 1, 28, 0, 0, 0, 0), (28, .iinc 2 1, 3, 31, 0, 0, 0, 0), (31, .goto (-27), 3, 34, 4, 0, 0, 0), (34, .iload_n 1, 1, 35, 0, 0, 0, 0), (35, .ireturn, 1, 36, 0, 0, 0, 0)])
def k_X10_tellsWord : MM := ((some .int), [(0, .iconst 0, 1, 1, 0, 0, 0, 0), (1, .istore 4, 2, 3, 0, 0, 0, 0), (3, .iconst 0, 1, 4, 0, 0, 0, 0), (4, .istore 5, 2, 6, 0, 0, 0, 0), (6, .aload_n 0, 1, 7, 0, 0, 0, 0), (7, .getfield 40, 3, 10, 0, 10, 11, 0), (10, .iconst 0, 1, 11, 0, 0, 0, 0), (11, .bipush 26, 2, 13, 0, 0, 0, 0), (13, .iastore, 1, 14, 0, 0, 0, 0), (14, .aload_n 0, 1, 15, 0, 0, 0, 0), (15, .getfield 43, 3, 18, 0, 10, 12, 0), (18, .iconst 0, 1, 19, 0, 0, 0, 0), (19, .iconst 0, 1, 20, 0, 0, 0, 0), (20, .iastore, 1, 21, 0, 0, 0, 0), (21, .iload 5, 2, 23, 0, 0, 0, 0), (23, .ifCond .lt 110, 3, 26, 133, 0, 0, 0), (26, .iload_n 2, 1, 27, 0, 0, 0, 0), (27, .bipush 81, 2, 29, 0, 0, 0, 0), (29, .aload_n 0, 1, 30, 0, 0, 0, 0), (30, .getfield 40, 3, 33, 0, 10, 11, 0), (33, .iload 5, 2, 35, 0, 0, 0, 0), (35, .iaload, 1, 36, 0, 0, 0, 0), (36, .imul, 1, 37, 0, 0, 0, 0), (37, .iadd, 1, 38, 0, 0, 0, 0), (38, .istore 6, 2, 40, 0, 0, 0, 0), (40, .aload_n 0, 1, 41, 0, 0, 0, 0), (41, .getfield 43, 3, 44, 0, 10, 12, 0), (44, .iload 5, 2, 46, 0, 0, 0, 0), (46, .iaload, 1, 47, 0, 0, 0, 0), (47, .aload_n 1, 1, 48, 0, 0, 0, 0), (48, .iload 6, 2, 50, 0, 0, 0, 0), (50, .iaload, 1, 51, 0, 0, 0, 0), (51, .if_icmp .ne 9, 3, 54, 60, 0, 0, 0), (54, .iinc 5 (-1), 3, 57, 0, 0, 0, 0), (57, .goto 73, 3, 60, 130, 0, 0, 0), (60, .aload_n 1, 1, 61, 0, 0, 0, 0), (61, .iload 6, 2, 63, 0, 0, 0, 0), (63, .iconst 1, 1, 64, 0, 0, 0, 0), (64, .iadd, 1, 65, 0, 0, 0, 0), (65, .aload_n 0, 1, 66, 0, 0, 0, 0), (66, .getfield 43, 3, 69, 0, 10, 12, 0), (69, .iload 5, 2, 71, 0, 0, 0, 0), (71, .iaload, 1, 72, 0, 0, 0, 0), (72, .iadd, 1, 73, 0, 0, 0, 0), (73, .iaload, 1, 74, 0, 0, 0, 0), (74, .istore 7, 2, 76, 0, 0, 0, 0), (76, .aload_n 0, 1, 77, 0, 0, 0, 0), (77, .getfield 43, 3, 80, 0, 10, 12, 0), (80, .iload 5, 2, 82, 0, 0, 0, 0), (82, .dup2, 1, 83, 0, 0, 0, 0), (83, .iaload, 1, 84, 0, 0, 0, 0), (84, .iconst 1, 1, 85, 0, 0, 0, 0), (85, .iadd, 1, 86, 0, 0, 0, 0), (86, .iastore, 1, 87, 0, 0, 0, 0), (87, .iload 7, 2, 89, 0, 0, 0, 0), (89, .invokestatic 60, 3, 92, 0, 130, 1, 0), (92, .ifCond .eq 15, 3, 95, 107, 0, 0, 0), (95, .aload_n 3, 1, 96, 0, 0, 0, 0), (96, .iload 4, 2, 98, 0, 0, 0, 0), (98, .iload 7, 2, 100, 0, 0, 0, 0), (100, .iastore, 1, 101, 0, 0, 0, 0), (101, .iinc 4 1, 3, 104, 0, 0, 0, 0), (104, .goto 26, 3, 107, 130, 0, 0, 0), (107, .iinc 5 1, 3, 110, 0, 0, 0, 0), (110, .aload_n 0, 1, 111, 0, 0, 0, 0), (111, .getfield 40, 3, 114, 0, 10, 11, 0), (114, .iload 5, 2, 116, 0, 0, 0, 0), (116, .iload 7, 2, 118, 0, 0, 0, 0), (118, .invokestatic 64, 3, 121, 0, 129, 1, 0), (121, .iastore, 1, 122, 0, 0, 0, 0), (122, .aload_n 0, 1, 123, 0, 0, 0, 0), (123, .getfield 43, 3, 126, 0, 10, 12, 0), (126, .iload 5, 2, 128, 0, 0, 0, 0), (128, .iconst 0, 1, 129, 0, 0, 0, 0), (129, .iastore, 1, 130, 0, 0, 0, 0), (130, .goto (-109), 3, 133, 21, 0, 0, 0), (133, .iload 4, 2, 135, 0, 0, 0, 0), (135, .ireturn, 1, 136, 0, 0, 0, 0)])
def k_X10_pairs : MM := ((some .int), [(0, .iconst 0, 1, 1, 0, 0, 0, 0), (1, .istore_n 3, 1, 2, 0, 0, 0, 0), (2, .iconst 0, 1, 3, 0, 0, 0, 0), (3, .istore 4, 2, 5, 0, 0, 0, 0), (5, .iload 4, 2, 7, 0, 0, 0, 0), (7, .aload_n 0, 1, 8, 0, 0, 0, 0), (8, .bipush 26, 2, 10, 0, 0, 0, 0), (10, .invokevirtual 71, 3, 13, 1, 126, 2, 10), (13, .iconst 1, 1, 14, 0, 0, 0, 0), (14, .isub, 1, 15, 0, 0, 0, 0), (15, .if_icmp .ge 67, 3, 18, 82, 0, 0, 0), (18, .aload_n 0, 1, 19, 0, 0, 0, 0), (19, .bipush 26, 2, 21, 0, 0, 0, 0), (21, .iload 4, 2, 23, 0, 0, 0, 0), (23, .invokevirtual 74, 3, 26, 1, 127, 3, 10), (26, .iload_n 1, 1, 27, 0, 0, 0, 0), (27, .if_icmp .ne 21, 3, 30, 48, 0, 0, 0), (30, .aload_n 0, 1, 31, 0, 0, 0, 0), (31, .bipush 26, 2, 33, 0, 0, 0, 0), (33, .iload 4, 2, 35, 0, 0, 0, 0), (35, .iconst 1, 1, 36, 0, 0, 0, 0), (36, .iadd, 1, 37, 0, 0, 0, 0), (37, .invokevirtual 74, 3, 40, 1, 127, 3, 10), (40, .iload_n 2, 1, 41, 0, 0, 0, 0), (41, .if_icmp .ne 7, 3, 44, 48, 0, 0, 0), (44, .iconst 1, 1, 45, 0, 0, 0, 0), (45, .goto 4, 3, 48, 49, 0, 0, 0), (48, .iconst 0, 1, 49, 0, 0, 0, 0), (49, .istore 5, 2, 51, 0, 0, 0, 0), (51, .iload_n 3, 1, 52, 0, 0, 0, 0), (52, .iload 5, 2, 54, 0, 0, 0, 0), (54, .ifCond .eq 7, 3, 57, 61, 0, 0, 0), (57, .iconst 1, 1, 58, 0, 0, 0, 0), (58, .goto 4, 3, 61, 62, 0, 0, 0), (61, .iconst 0, 1, 62, 0, 0, 0, 0), (62, .iadd, 1, 63, 0, 0, 0, 0), (63, .istore_n 3, 1, 64, 0, 0, 0, 0), (64, .iload 4, 2, 66, 0, 0, 0, 0), (66, .iload 5, 2, 68, 0, 0, 0, 0), (68, .ifCond .eq 7, 3, 71, 75, 0, 0, 0), (71, .iconst 2, 1, 72, 0, 0, 0, 0), (72, .goto 4, 3, 75, 76, 0, 0, 0), (75, .iconst 1, 1, 76, 0, 0, 0, 0), (76, .iadd, 1, 77, 0, 0, 0, 0), (77, .istore 4, 2, 79, 0, 0, 0, 0), (79, .goto (-74), 3, 82, 5, 0, 0, 0), (82, .iload_n 3, 1, 83, 0, 0, 0, 0), (83, .ireturn, 1, 84, 0, 0, 0, 0)])
def k_X10_pairsFrom : MM := ((some .int), [(0, .aload_n 0, 1, 1, 0, 0, 0, 0), (1, .aload_n 0, 1, 2, 0, 0, 0, 0), (2, .bipush 26, 2, 4, 0, 0, 0, 0), (4, .iload_n 1, 1, 5, 0, 0, 0, 0), (5, .invokevirtual 74, 3, 8, 1, 127, 3, 10), (8, .aload_n 0, 1, 9, 0, 0, 0, 0), (9, .bipush 26, 2, 11, 0, 0, 0, 0), (11, .iload_n 1, 1, 12, 0, 0, 0, 0), (12, .iconst 1, 1, 13, 0, 0, 0, 0), (13, .iadd, 1, 14, 0, 0, 0, 0), (14, .invokevirtual 74, 3, 17, 1, 127, 3, 10), (17, .invokevirtual 84, 3, 20, 1, 139, 3, 10), (20, .ireturn, 1, 21, 0, 0, 0, 0)])
def k_X10_bestPlace : MM := ((some .int), [(0, .bipush (-6), 2, 2, 0, 0, 0, 0), (2, .istore_n 1, 1, 3, 0, 0, 0, 0), (3, .iconst 0, 1, 4, 0, 0, 0, 0), (4, .istore_n 2, 1, 5, 0, 0, 0, 0), (5, .iload_n 2, 1, 6, 0, 0, 0, 0), (6, .aload_n 0, 1, 7, 0, 0, 0, 0), (7, .bipush 26, 2, 9, 0, 0, 0, 0), (9, .invokevirtual 71, 3, 12, 1, 126, 2, 10), (12, .iconst 1, 1, 13, 0, 0, 0, 0), (13, .isub, 1, 14, 0, 0, 0, 0), (14, .if_icmp .ge 34, 3, 17, 48, 0, 0, 0), (17, .iload_n 1, 1, 18, 0, 0, 0, 0), (18, .bipush (-6), 2, 20, 0, 0, 0, 0), (20, .if_icmp .eq 16, 3, 23, 36, 0, 0, 0), (23, .aload_n 0, 1, 24, 0, 0, 0, 0), (24, .iload_n 2, 1, 25, 0, 0, 0, 0), (25, .invokevirtual 87, 3, 28, 1, 140, 2, 10), (28, .aload_n 0, 1, 29, 0, 0, 0, 0), (29, .iload_n 1, 1, 30, 0, 0, 0, 0), (30, .invokevirtual 87, 3, 33, 1, 140, 2, 10), (33, .if_icmp .le 7, 3, 36, 40, 0, 0, 0), (36, .iload_n 2, 1, 37, 0, 0, 0, 0), (37, .goto 4, 3, 40, 41, 0, 0, 0), (40, .iload_n 1, 1, 41, 0, 0, 0, 0), (41, .istore_n 1, 1, 42, 0, 0, 0, 0), (42, .iinc 2 1, 3, 45, 0, 0, 0, 0), (45, .goto (-40), 3, 48, 5, 0, 0, 0), (48, .iload_n 1, 1, 49, 0, 0, 0, 0), (49, .ireturn, 1, 50, 0, 0, 0, 0)])
def k_X10_folds : MM := ((some .boolean), [(0, .aload_n 0, 1, 1, 0, 0, 0, 0), (1, .invokevirtual 90, 3, 4, 1, 141, 1, 10), (4, .istore_n 1, 1, 5, 0, 0, 0, 0), (5, .iload_n 1, 1, 6, 0, 0, 0, 0), (6, .bipush (-6), 2, 8, 0, 0, 0, 0), (8, .if_icmp .eq 25, 3, 11, 33, 0, 0, 0), (11, .aload_n 0, 1, 12, 0, 0, 0, 0), (12, .getfield 7, 3, 15, 0, 10, 0, 0), (15, .sipush 2187, 3, 18, 0, 0, 0, 0), (18, .iaload, 1, 19, 0, 0, 0, 0), (19, .bipush 26, 2, 21, 0, 0, 0, 0), (21, .if_icmp .eq 12, 3, 24, 33, 0, 0, 0), (24, .aload_n 0, 1, 25, 0, 0, 0, 0), (25, .iload_n 1, 1, 26, 0, 0, 0, 0), (26, .invokevirtual 87, 3, 29, 1, 140, 2, 10), (29, .iconst 2, 1, 30, 0, 0, 0, 0), (30, .if_icmp .ge 5, 3, 33, 35, 0, 0, 0), (33, .iconst 0, 1, 34, 0, 0, 0, 0), (34, .ireturn, 1, 35, 0, 0, 0, 0), (35, .aload_n 0, 1, 36, 0, 0, 0, 0), (36, .bipush 26, 2, 38, 0, 0, 0, 0), (38, .iload_n 1, 1, 39, 0, 0, 0, 0), (39, .invokevirtual 74, 3, 42, 1, 127, 3, 10), (42, .istore_n 2, 1, 43, 0, 0, 0, 0), (43, .aload_n 0, 1, 44, 0, 0, 0, 0), (44, .bipush 26, 2, 46, 0, 0, 0, 0), (46, .iload_n 1, 1, 47, 0, 0, 0, 0), (47, .iconst 1, 1, 48, 0, 0, 0, 0), (48, .iadd, 1, 49, 0, 0, 0, 0), (49, .invokevirtual 74, 3, 52, 1, 127, 3, 10), (52, .istore_n 3, 1, 53, 0, 0, 0, 0), (53, .aload_n 0, 1, 54, 0, 0, 0, 0), (54, .getfield 7, 3, 57, 0, 10, 0, 0), (57, .sipush 2187, 3, 60, 0, 0, 0, 0), (60, .iaload, 1, 61, 0, 0, 0, 0), (61, .istore 4, 2, 63, 0, 0, 0, 0), (63, .aload_n 0, 1, 64, 0, 0, 0, 0), (64, .getfield 7, 3, 67, 0, 10, 0, 0), (67, .sipush 2187, 3, 70, 0, 0, 0, 0), (70, .dup2, 1, 71, 0, 0, 0, 0), (71, .iaload, 1, 72, 0, 0, 0, 0), (72, .iconst 1, 1, 73, 0, 0, 0, 0), (73, .iadd, 1, 74, 0, 0, 0, 0), (74, .iastore, 1, 75, 0, 0, 0, 0), (75, .aload_n 0, 1, 76, 0, 0, 0, 0), (76, .getfield 7, 3, 79, 0, 10, 0, 0), (79, .bipush 81, 2, 81, 0, 0, 0, 0), (81, .iload 4, 2, 83, 0, 0, 0, 0), (83, .imul, 1, 84, 0, 0, 0, 0), (84, .iconst 2, 1, 85, 0, 0, 0, 0), (85, .iastore, 1, 86, 0, 0, 0, 0), (86, .aload_n 0, 1, 87, 0, 0, 0, 0), (87, .getfield 7, 3, 90, 0, 10, 0, 0), (90, .bipush 81, 2, 92, 0, 0, 0, 0), (92, .iload 4, 2, 94, 0, 0, 0, 0), (94, .imul, 1, 95, 0, 0, 0, 0), (95, .iconst 1, 1, 96, 0, 0, 0, 0), (96, .iadd, 1, 97, 0, 0, 0, 0), (97, .iload_n 2, 1, 98, 0, 0, 0, 0), (98, .iastore, 1, 99, 0, 0, 0, 0), (99, .aload_n 0, 1, 100, 0, 0, 0, 0), (100, .getfield 7, 3, 103, 0, 10, 0, 0), (103, .bipush 81, 2, 105, 0, 0, 0, 0), (105, .iload 4, 2, 107, 0, 0, 0, 0), (107, .imul, 1, 108, 0, 0, 0, 0), (108, .iconst 2, 1, 109, 0, 0, 0, 0), (109, .iadd, 1, 110, 0, 0, 0, 0), (110, .iload_n 3, 1, 111, 0, 0, 0, 0), (111, .iastore, 1, 112, 0, 0, 0, 0), (112, .aload_n 0, 1, 113, 0, 0, 0, 0), (113, .bipush 26, 2, 115, 0, 0, 0, 0), (115, .invokevirtual 71, 3, 118, 1, 126, 2, 10), (118, .istore 5, 2, 120, 0, 0, 0, 0), (120, .iconst 0, 1, 121, 0, 0, 0, 0), (121, .istore 6, 2, 123, 0, 0, 0, 0), (123, .iconst 0, 1, 124, 0, 0, 0, 0), (124, .istore 7, 2, 126, 0, 0, 0, 0), (126, .iload 7, 2, 128, 0, 0, 0, 0), (128, .iload 5, 2, 130, 0, 0, 0, 0), (130, .if_icmp .ge 98, 3, 133, 228, 0, 0, 0), (133, .iload 7, 2, 135, 0, 0, 0, 0), (135, .iconst 1, 1, 136, 0, 0, 0, 0), (136, .iadd, 1, 137, 0, 0, 0, 0), (137, .iload 5, 2, 139, 0, 0, 0, 0), (139, .if_icmp .ge 33, 3, 142, 172, 0, 0, 0), (142, .aload_n 0, 1, 143, 0, 0, 0, 0), (143, .bipush 26, 2, 145, 0, 0, 0, 0), (145, .iload 7, 2, 147, 0, 0, 0, 0), (147, .invokevirtual 74, 3, 150, 1, 127, 3, 10), (150, .iload_n 2, 1, 151, 0, 0, 0, 0), (151, .if_icmp .ne 21, 3, 154, 172, 0, 0, 0), (154, .aload_n 0, 1, 155, 0, 0, 0, 0), (155, .bipush 26, 2, 157, 0, 0, 0, 0), (157, .iload 7, 2, 159, 0, 0, 0, 0), (159, .iconst 1, 1, 160, 0, 0, 0, 0), (160, .iadd, 1, 161, 0, 0, 0, 0), (161, .invokevirtual 74, 3, 164, 1, 127, 3, 10), (164, .iload_n 3, 1, 165, 0, 0, 0, 0), (165, .if_icmp .ne 7, 3, 168, 172, 0, 0, 0), (168, .iconst 1, 1, 169, 0, 0, 0, 0), (169, .goto 4, 3, 172, 173, 0, 0, 0), (172, .iconst 0, 1, 173, 0, 0, 0, 0), (173, .istore 8, 2, 175, 0, 0, 0, 0), (175, .aload_n 0, 1, 176, 0, 0, 0, 0), (176, .getfield 7, 3, 179, 0, 10, 0, 0), (179, .sipush 2107, 3, 182, 0, 0, 0, 0), (182, .iload 6, 2, 184, 0, 0, 0, 0), (184, .iadd, 1, 185, 0, 0, 0, 0), (185, .iload 8, 2, 187, 0, 0, 0, 0), (187, .ifCond .eq 11, 3, 190, 198, 0, 0, 0), (190, .bipush 8, 2, 192, 0, 0, 0, 0), (192, .iload 4, 2, 194, 0, 0, 0, 0), (194, .iadd, 1, 195, 0, 0, 0, 0), (195, .goto 11, 3, 198, 206, 0, 0, 0), (198, .aload_n 0, 1, 199, 0, 0, 0, 0), (199, .bipush 26, 2, 201, 0, 0, 0, 0), (201, .iload 7, 2, 203, 0, 0, 0, 0), (203, .invokevirtual 74, 3, 206, 1, 127, 3, 10), (206, .iastore, 1, 207, 0, 0, 0, 0), (207, .iinc 6 1, 3, 210, 0, 0, 0, 0), (210, .iload 7, 2, 212, 0, 0, 0, 0), (212, .iload 8, 2, 214, 0, 0, 0, 0), (214, .ifCond .eq 7, 3, 217, 221, 0, 0, 0), (217, .iconst 2, 1, 218, 0, 0, 0, 0), (218, .goto 4, 3, 221, 222, 0, 0, 0), (221, .iconst 1, 1, 222, 0, 0, 0, 0), (222, .iadd, 1, 223, 0, 0, 0, 0), (223, .istore 7, 2, 225, 0, 0, 0, 0), (225, .goto (-99), 3, 228, 126, 0, 0, 0), (228, .aload_n 0, 1, 229, 0, 0, 0, 0), (229, .getfield 7, 3, 232, 0, 10, 0, 0), (232, .sipush 2106, 3, 235, 0, 0, 0, 0), (235, .iload 6, 2, 237, 0, 0, 0, 0), (237, .iastore, 1, 238, 0, 0, 0, 0), (238, .iconst 1, 1, 239, 0, 0, 0, 0), (239, .ireturn, 1, 240, 0, 0, 0, 0)])
def k_X10_usedIn : MM := ((some .int), [(0, .iconst 0, 1, 1, 0, 0, 0, 0), (1, .istore_n 3, 1, 2, 0, 0, 0, 0), (2, .iconst 0, 1, 3, 0, 0, 0, 0), (3, .istore 4, 2, 5, 0, 0, 0, 0), (5, .iload 4, 2, 7, 0, 0, 0, 0), (7, .aload_n 0, 1, 8, 0, 0, 0, 0), (8, .iload_n 1, 1, 9, 0, 0, 0, 0), (9, .invokevirtual 71, 3, 12, 1, 126, 2, 10), (12, .if_icmp .ge 31, 3, 15, 43, 0, 0, 0), (15, .iload_n 3, 1, 16, 0, 0, 0, 0), (16, .aload_n 0, 1, 17, 0, 0, 0, 0), (17, .iload_n 1, 1, 18, 0, 0, 0, 0), (18, .iload 4, 2, 20, 0, 0, 0, 0), (20, .invokevirtual 74, 3, 23, 1, 127, 3, 10), (23, .iload_n 2, 1, 24, 0, 0, 0, 0), (24, .bipush 8, 2, 26, 0, 0, 0, 0), (26, .iadd, 1, 27, 0, 0, 0, 0), (27, .if_icmp .ne 7, 3, 30, 34, 0, 0, 0), (30, .iconst 1, 1, 31, 0, 0, 0, 0), (31, .goto 4, 3, 34, 35, 0, 0, 0), (34, .iconst 0, 1, 35, 0, 0, 0, 0), (35, .iadd, 1, 36, 0, 0, 0, 0), (36, .istore_n 3, 1, 37, 0, 0, 0, 0), (37, .iinc 4 1, 3, 40, 0, 0, 0, 0), (40, .goto (-35), 3, 43, 5, 0, 0, 0), (43, .iload_n 3, 1, 44, 0, 0, 0, 0), (44, .ireturn, 1, 45, 0, 0, 0, 0)])
def k_X10_canUnroll : MM := ((some .boolean), [(0, .iconst 1, 1, 1, 0, 0, 0, 0), (1, .istore_n 2, 1, 2, 0, 0, 0, 0), (2, .iconst 0, 1, 3, 0, 0, 0, 0), (3, .istore_n 3, 1, 4, 0, 0, 0, 0), (4, .iload_n 3, 1, 5, 0, 0, 0, 0), (5, .aload_n 0, 1, 6, 0, 0, 0, 0), (6, .getfield 7, 3, 9, 0, 10, 0, 0), (9, .sipush 2187, 3, 12, 0, 0, 0, 0), (12, .iaload, 1, 13, 0, 0, 0, 0), (13, .if_icmp .gt 53, 3, 16, 66, 0, 0, 0), (16, .aload_n 0, 1, 17, 0, 0, 0, 0), (17, .iload_n 3, 1, 18, 0, 0, 0, 0), (18, .invokevirtual 68, 3, 21, 1, 131, 2, 10), (21, .istore 4, 2, 23, 0, 0, 0, 0), (23, .iload_n 2, 1, 24, 0, 0, 0, 0), (24, .ifCond .eq 34, 3, 27, 58, 0, 0, 0), (27, .aload_n 0, 1, 28, 0, 0, 0, 0), (28, .iload 4, 2, 30, 0, 0, 0, 0), (30, .invokevirtual 71, 3, 33, 1, 126, 2, 10), (33, .aload_n 0, 1, 34, 0, 0, 0, 0), (34, .iload 4, 2, 36, 0, 0, 0, 0), (36, .iload_n 1, 1, 37, 0, 0, 0, 0), (37, .invokevirtual 94, 3, 40, 1, 143, 3, 10), (40, .aload_n 0, 1, 41, 0, 0, 0, 0), (41, .iload_n 1, 1, 42, 0, 0, 0, 0), (42, .invokevirtual 71, 3, 45, 1, 126, 2, 10), (45, .iconst 1, 1, 46, 0, 0, 0, 0), (46, .isub, 1, 47, 0, 0, 0, 0), (47, .imul, 1, 48, 0, 0, 0, 0), (48, .iadd, 1, 49, 0, 0, 0, 0), (49, .bipush 80, 2, 51, 0, 0, 0, 0), (51, .if_icmp .gt 7, 3, 54, 58, 0, 0, 0), (54, .iconst 1, 1, 55, 0, 0, 0, 0), (55, .goto 4, 3, 58, 59, 0, 0, 0), (58, .iconst 0, 1, 59, 0, 0, 0, 0), (59, .istore_n 2, 1, 60, 0, 0, 0, 0), (60, .iinc 3 1, 3, 63, 0, 0, 0, 0), (63, .goto (-59), 3, 66, 4, 0, 0, 0), (66, .iload_n 2, 1, 67, 0, 0, 0, 0), (67, .ireturn, 1, 68, 0, 0, 0, 0)])
def k_X10_unrollsIn : MM := (none, [(0, .iconst 0, 1, 1, 0, 0, 0, 0), (1, .istore_n 3, 1, 2, 0, 0, 0, 0), (2, .iconst 0, 1, 3, 0, 0, 0, 0), (3, .istore 4, 2, 5, 0, 0, 0, 0), (5, .iload 4, 2, 7, 0, 0, 0, 0), (7, .aload_n 0, 1, 8, 0, 0, 0, 0), (8, .iload_n 1, 1, 9, 0, 0, 0, 0), (9, .invokevirtual 71, 3, 12, 1, 126, 2, 10), (12, .if_icmp .ge 100, 3, 15, 112, 0, 0, 0), (15, .aload_n 0, 1, 16, 0, 0, 0, 0), (16, .iload_n 1, 1, 17, 0, 0, 0, 0), (17, .iload 4, 2, 19, 0, 0, 0, 0), (19, .invokevirtual 74, 3, 22, 1, 127, 3, 10), (22, .istore 5, 2, 24, 0, 0, 0, 0), (24, .iload 5, 2, 26, 0, 0, 0, 0), (26, .iload_n 2, 1, 27, 0, 0, 0, 0), (27, .bipush 8, 2, 29, 0, 0, 0, 0), (29, .iadd, 1, 30, 0, 0, 0, 0), (30, .if_icmp .ne 11, 3, 33, 41, 0, 0, 0), (33, .aload_n 0, 1, 34, 0, 0, 0, 0), (34, .iload_n 2, 1, 35, 0, 0, 0, 0), (35, .invokevirtual 71, 3, 38, 1, 126, 2, 10), (38, .goto 4, 3, 41, 42, 0, 0, 0), (41, .iconst 1, 1, 42, 0, 0, 0, 0), (42, .istore 6, 2, 44, 0, 0, 0, 0), (44, .iconst 0, 1, 45, 0, 0, 0, 0), (45, .istore 7, 2, 47, 0, 0, 0, 0), (47, .iload 7, 2, 49, 0, 0, 0, 0), (49, .iload 6, 2, 51, 0, 0, 0, 0), (51, .if_icmp .ge 55, 3, 54, 106, 0, 0, 0), (54, .aload_n 0, 1, 55, 0, 0, 0, 0), (55, .getfield 46, 3, 58, 0, 10, 13, 0), (58, .iload_n 3, 1, 59, 0, 0, 0, 0), (59, .iload 5, 2, 61, 0, 0, 0, 0), (61, .iload_n 2, 1, 62, 0, 0, 0, 0), (62, .bipush 8, 2, 64, 0, 0, 0, 0), (64, .iadd, 1, 65, 0, 0, 0, 0), (65, .if_icmp .ne 13, 3, 68, 78, 0, 0, 0), (68, .aload_n 0, 1, 69, 0, 0, 0, 0), (69, .iload_n 2, 1, 70, 0, 0, 0, 0), (70, .iload 7, 2, 72, 0, 0, 0, 0), (72, .invokevirtual 74, 3, 75, 1, 127, 3, 10), (75, .goto 21, 3, 78, 96, 0, 0, 0), (78, .iload 5, 2, 80, 0, 0, 0, 0), (80, .iload_n 2, 1, 81, 0, 0, 0, 0), (81, .bipush 8, 2, 83, 0, 0, 0, 0), (83, .iadd, 1, 84, 0, 0, 0, 0), (84, .if_icmp .le 10, 3, 87, 94, 0, 0, 0), (87, .iload 5, 2, 89, 0, 0, 0, 0), (89, .iconst 1, 1, 90, 0, 0, 0, 0), (90, .isub, 1, 91, 0, 0, 0, 0), (91, .goto 5, 3, 94, 96, 0, 0, 0), (94, .iload 5, 2, 96, 0, 0, 0, 0), (96, .iastore, 1, 97, 0, 0, 0, 0), (97, .iinc 3 1, 3, 100, 0, 0, 0, 0), (100, .iinc 7 1, 3, 103, 0, 0, 0, 0), (103, .goto (-56), 3, 106, 47, 0, 0, 0), (106, .iinc 4 1, 3, 109, 0, 0, 0, 0), (109, .goto (-104), 3, 112, 5, 0, 0, 0), (112, .aload_n 0, 1, 113, 0, 0, 0, 0), (113, .getfield 7, 3, 116, 0, 10, 0, 0), (116, .bipush 81, 2, 118, 0, 0, 0, 0), (118, .iload_n 1, 1, 119, 0, 0, 0, 0), (119, .imul, 1, 120, 0, 0, 0, 0), (120, .iload_n 3, 1, 121, 0, 0, 0, 0), (121, .iastore, 1, 122, 0, 0, 0, 0), (122, .iconst 0, 1, 123, 0, 0, 0, 0), (123, .istore 4, 2, 125, 0, 0, 0, 0), (125, .iload 4, 2, 127, 0, 0, 0, 0), (127, .iload_n 3, 1, 128, 0, 0, 0, 0), (128, .if_icmp .ge 30, 3, 131, 158, 0, 0, 0), (131, .aload_n 0, 1, 132, 0, 0, 0, 0), (132, .getfield 7, 3, 135, 0, 10, 0, 0), (135, .bipush 81, 2, 137, 0, 0, 0, 0), (137, .iload_n 1, 1, 138, 0, 0, 0, 0), (138, .imul, 1, 139, 0, 0, 0, 0), (139, .iconst 1, 1, 140, 0, 0, 0, 0), (140, .iadd, 1, 141, 0, 0, 0, 0), (141, .iload 4, 2, 143, 0, 0, 0, 0), (143, .iadd, 1, 144, 0, 0, 0, 0), (144, .aload_n 0, 1, 145, 0, 0, 0, 0), (145, .getfield 46, 3, 148, 0, 10, 13, 0), (148, .iload 4, 2, 150, 0, 0, 0, 0), (150, .iaload, 1, 151, 0, 0, 0, 0), (151, .iastore, 1, 152, 0, 0, 0, 0), (152, .iinc 4 1, 3, 155, 0, 0, 0, 0), (155, .goto (-30), 3, 158, 125, 0, 0, 0), (158, .return_, 1, 159, 0, 0, 0, 0)])
def k_X10_unrolls : MM := (none, [(0, .iload_n 1, 1, 1, 0, 0, 0, 0), (1, .iconst 1, 1, 2, 0, 0, 0, 0), (2, .iadd, 1, 3, 0, 0, 0, 0), (3, .istore_n 2, 1, 4, 0, 0, 0, 0), (4, .iload_n 2, 1, 5, 0, 0, 0, 0), (5, .aload_n 0, 1, 6, 0, 0, 0, 0), (6, .getfield 7, 3, 9, 0, 10, 0, 0), (9, .sipush 2187, 3, 12, 0, 0, 0, 0), (12, .iaload, 1, 13, 0, 0, 0, 0), (13, .if_icmp .gt 19, 3, 16, 32, 0, 0, 0), (16, .aload_n 0, 1, 17, 0, 0, 0, 0), (17, .aload_n 0, 1, 18, 0, 0, 0, 0), (18, .iload_n 2, 1, 19, 0, 0, 0, 0), (19, .invokevirtual 68, 3, 22, 1, 131, 2, 10), (22, .iload_n 1, 1, 23, 0, 0, 0, 0), (23, .invokevirtual 97, 3, 26, 1, 145, 3, 10), (26, .iinc 2 1, 3, 29, 0, 0, 0, 0), (29, .goto (-25), 3, 32, 4, 0, 0, 0), (32, .aload_n 0, 1, 33, 0, 0, 0, 0), (33, .getfield 7, 3, 36, 0, 10, 0, 0), (36, .sipush 2187, 3, 39, 0, 0, 0, 0), (39, .dup2, 1, 40, 0, 0, 0, 0), (40, .iaload, 1, 41, 0, 0, 0, 0), (41, .iconst 1, 1, 42, 0, 0, 0, 0), (42, .isub, 1, 43, 0, 0, 0, 0), (43, .iastore, 1, 44, 0, 0, 0, 0), (44, .bipush 81, 2, 46, 0, 0, 0, 0), (46, .iload_n 1, 1, 47, 0, 0, 0, 0), (47, .imul, 1, 48, 0, 0, 0, 0), (48, .istore_n 2, 1, 49, 0, 0, 0, 0), (49, .iload_n 2, 1, 50, 0, 0, 0, 0), (50, .bipush 81, 2, 52, 0, 0, 0, 0), (52, .aload_n 0, 1, 53, 0, 0, 0, 0), (53, .getfield 7, 3, 56, 0, 10, 0, 0), (56, .sipush 2187, 3, 59, 0, 0, 0, 0), (59, .iaload, 1, 60, 0, 0, 0, 0), (60, .imul, 1, 61, 0, 0, 0, 0), (61, .if_icmp .ge 24, 3, 64, 85, 0, 0, 0), (64, .aload_n 0, 1, 65, 0, 0, 0, 0), (65, .getfield 7, 3, 68, 0, 10, 0, 0), (68, .iload_n 2, 1, 69, 0, 0, 0, 0), (69, .aload_n 0, 1, 70, 0, 0, 0, 0), (70, .getfield 7, 3, 73, 0, 10, 0, 0), (73, .iload_n 2, 1, 74, 0, 0, 0, 0), (74, .bipush 81, 2, 76, 0, 0, 0, 0), (76, .iadd, 1, 77, 0, 0, 0, 0), (77, .iaload, 1, 78, 0, 0, 0, 0), (78, .iastore, 1, 79, 0, 0, 0, 0), (79, .iinc 2 1, 3, 82, 0, 0, 0, 0), (82, .goto (-33), 3, 85, 49, 0, 0, 0), (85, .return_, 1, 86, 0, 0, 0, 0)])
def k_X10_nextPruned : MM := ((some .int), [(0, .iconst 0, 1, 1, 0, 0, 0, 0), (1, .istore_n 1, 1, 2, 0, 0, 0, 0), (2, .iload_n 1, 1, 3, 0, 0, 0, 0), (3, .aload_n 0, 1, 4, 0, 0, 0, 0), (4, .getfield 7, 3, 7, 0, 10, 0, 0), (7, .sipush 2187, 3, 10, 0, 0, 0, 0), (10, .iaload, 1, 11, 0, 0, 0, 0), (11, .if_icmp .ge 28, 3, 14, 39, 0, 0, 0), (14, .aload_n 0, 1, 15, 0, 0, 0, 0), (15, .iload_n 1, 1, 16, 0, 0, 0, 0), (16, .invokevirtual 101, 3, 19, 1, 135, 2, 10), (19, .iconst 2, 1, 20, 0, 0, 0, 0), (20, .if_icmp .ge 13, 3, 23, 33, 0, 0, 0), (23, .aload_n 0, 1, 24, 0, 0, 0, 0), (24, .iload_n 1, 1, 25, 0, 0, 0, 0), (25, .invokevirtual 104, 3, 28, 1, 144, 2, 10), (28, .ifCond .eq 5, 3, 31, 33, 0, 0, 0), (31, .iload_n 1, 1, 32, 0, 0, 0, 0), (32, .ireturn, 1, 33, 0, 0, 0, 0), (33, .iinc 1 1, 3, 36, 0, 0, 0, 0), (36, .goto (-34), 3, 39, 2, 0, 0, 0), (39, .bipush (-6), 2, 41, 0, 0, 0, 0), (41, .ireturn, 1, 42, 0, 0, 0, 0)])
def k_X10_prunes : MM := ((some .int), [(0, .iconst 0, 1, 1, 0, 0, 0, 0), (1, .istore_n 1, 1, 2, 0, 0, 0, 0), (2, .aload_n 0, 1, 3, 0, 0, 0, 0), (3, .invokevirtual 107, 3, 6, 1, 147, 1, 10), (6, .istore_n 2, 1, 7, 0, 0, 0, 0), (7, .iload_n 2, 1, 8, 0, 0, 0, 0), (8, .bipush (-6), 2, 10, 0, 0, 0, 0), (10, .if_icmp .eq 19, 3, 13, 29, 0, 0, 0), (13, .aload_n 0, 1, 14, 0, 0, 0, 0), (14, .iload_n 2, 1, 15, 0, 0, 0, 0), (15, .invokevirtual 110, 3, 18, 1, 146, 2, 10), (18, .iinc 1 1, 3, 21, 0, 0, 0, 0), (21, .aload_n 0, 1, 22, 0, 0, 0, 0), (22, .invokevirtual 107, 3, 25, 1, 147, 1, 10), (25, .istore_n 2, 1, 26, 0, 0, 0, 0), (26, .goto (-19), 3, 29, 7, 0, 0, 0), (29, .iload_n 1, 1, 30, 0, 0, 0, 0), (30, .ireturn, 1, 31, 0, 0, 0, 0)])
def k_X10_seeks : MM := (none, [(0, .aload_n 0, 1, 1, 0, 0, 0, 0), (1, .iconst 0, 1, 2, 0, 0, 0, 0), (2, .putfield 114, 3, 5, 0, 10, 14, 0), (5, .aload_n 0, 1, 6, 0, 0, 0, 0), (6, .iload_n 1, 1, 7, 0, 0, 0, 0), (7, .putfield 117, 3, 10, 0, 10, 15, 0), (10, .aload_n 0, 1, 11, 0, 0, 0, 0), (11, .getfield 117, 3, 14, 0, 10, 15, 0), (14, .aload_n 0, 1, 15, 0, 0, 0, 0), (15, .aload_n 0, 1, 16, 0, 0, 0, 0), (16, .bipush 26, 2, 18, 0, 0, 0, 0), (18, .aload_n 0, 1, 19, 0, 0, 0, 0), (19, .getfield 114, 3, 22, 0, 10, 14, 0), (22, .invokevirtual 74, 3, 25, 1, 127, 3, 10), (25, .invokevirtual 78, 3, 28, 1, 132, 2, 10), (28, .if_icmp .lt 39, 3, 31, 67, 0, 0, 0), (31, .aload_n 0, 1, 32, 0, 0, 0, 0), (32, .dup, 1, 33, 0, 0, 0, 0), (33, .getfield 117, 3, 36, 0, 10, 15, 0), (36, .aload_n 0, 1, 37, 0, 0, 0, 0), (37, .aload_n 0, 1, 38, 0, 0, 0, 0), (38, .bipush 26, 2, 40, 0, 0, 0, 0), (40, .aload_n 0, 1, 41, 0, 0, 0, 0), (41, .getfield 114, 3, 44, 0, 10, 14, 0), (44, .invokevirtual 74, 3, 47, 1, 127, 3, 10), (47, .invokevirtual 78, 3, 50, 1, 132, 2, 10), (50, .isub, 1, 51, 0, 0, 0, 0), (51, .putfield 117, 3, 54, 0, 10, 15, 0), (54, .aload_n 0, 1, 55, 0, 0, 0, 0), (55, .dup, 1, 56, 0, 0, 0, 0), (56, .getfield 114, 3, 59, 0, 10, 14, 0), (59, .iconst 1, 1, 60, 0, 0, 0, 0), (60, .iadd, 1, 61, 0, 0, 0, 0), (61, .putfield 114, 3, 64, 0, 10, 14, 0), (64, .goto (-54), 3, 67, 10, 0, 0, 0), (67, .return_, 1, 68, 0, 0, 0, 0)])
def k_X10_opensAt : MM := (none, [(0, .aload_n 0, 1, 1, 0, 0, 0, 0), (1, .bipush 26, 2, 3, 0, 0, 0, 0), (3, .iload_n 1, 1, 4, 0, 0, 0, 0), (4, .invokevirtual 74, 3, 7, 1, 127, 3, 10), (7, .invokestatic 64, 3, 10, 0, 129, 1, 0), (10, .istore_n 2, 1, 11, 0, 0, 0, 0), (11, .aload_n 0, 1, 12, 0, 0, 0, 0), (12, .iload_n 2, 1, 13, 0, 0, 0, 0), (13, .invokevirtual 71, 3, 16, 1, 126, 2, 10), (16, .iconst 1, 1, 17, 0, 0, 0, 0), (17, .isub, 1, 18, 0, 0, 0, 0), (18, .istore_n 3, 1, 19, 0, 0, 0, 0), (19, .aload_n 0, 1, 20, 0, 0, 0, 0), (20, .bipush 26, 2, 22, 0, 0, 0, 0), (22, .invokevirtual 71, 3, 25, 1, 126, 2, 10), (25, .iconst 1, 1, 26, 0, 0, 0, 0), (26, .isub, 1, 27, 0, 0, 0, 0), (27, .istore 4, 2, 29, 0, 0, 0, 0), (29, .iload 4, 2, 31, 0, 0, 0, 0), (31, .iload_n 1, 1, 32, 0, 0, 0, 0), (32, .if_icmp .le 30, 3, 35, 62, 0, 0, 0), (35, .aload_n 0, 1, 36, 0, 0, 0, 0), (36, .getfield 7, 3, 39, 0, 10, 0, 0), (39, .sipush 2107, 3, 42, 0, 0, 0, 0), (42, .iload 4, 2, 44, 0, 0, 0, 0), (44, .iadd, 1, 45, 0, 0, 0, 0), (45, .iload_n 3, 1, 46, 0, 0, 0, 0), (46, .iadd, 1, 47, 0, 0, 0, 0), (47, .aload_n 0, 1, 48, 0, 0, 0, 0), (48, .bipush 26, 2, 50, 0, 0, 0, 0), (50, .iload 4, 2, 52, 0, 0, 0, 0), (52, .invokevirtual 74, 3, 55, 1, 127, 3, 10), (55, .iastore, 1, 56, 0, 0, 0, 0), (56, .iinc 4 (-1), 3, 59, 0, 0, 0, 0), (59, .goto (-30), 3, 62, 29, 0, 0, 0), (62, .iconst 0, 1, 63, 0, 0, 0, 0), (63, .istore 4, 2, 65, 0, 0, 0, 0), (65, .iload 4, 2, 67, 0, 0, 0, 0), (67, .iload_n 3, 1, 68, 0, 0, 0, 0), (68, .if_icmp .gt 29, 3, 71, 97, 0, 0, 0), (71, .aload_n 0, 1, 72, 0, 0, 0, 0), (72, .getfield 7, 3, 75, 0, 10, 0, 0), (75, .sipush 2107, 3, 78, 0, 0, 0, 0), (78, .iload_n 1, 1, 79, 0, 0, 0, 0), (79, .iadd, 1, 80, 0, 0, 0, 0), (80, .iload 4, 2, 82, 0, 0, 0, 0), (82, .iadd, 1, 83, 0, 0, 0, 0), (83, .aload_n 0, 1, 84, 0, 0, 0, 0), (84, .iload_n 2, 1, 85, 0, 0, 0, 0), (85, .iload 4, 2, 87, 0, 0, 0, 0), (87, .invokevirtual 74, 3, 90, 1, 127, 3, 10), (90, .iastore, 1, 91, 0, 0, 0, 0), (91, .iinc 4 1, 3, 94, 0, 0, 0, 0), (94, .goto (-29), 3, 97, 65, 0, 0, 0), (97, .aload_n 0, 1, 98, 0, 0, 0, 0), (98, .getfield 7, 3, 101, 0, 10, 0, 0), (101, .sipush 2106, 3, 104, 0, 0, 0, 0), (104, .dup2, 1, 105, 0, 0, 0, 0), (105, .iaload, 1, 106, 0, 0, 0, 0), (106, .iload_n 3, 1, 107, 0, 0, 0, 0), (107, .iadd, 1, 108, 0, 0, 0, 0), (108, .iastore, 1, 109, 0, 0, 0, 0), (109, .return_, 1, 110, 0, 0, 0, 0)])
def k_X10_opensTo : MM := ((some .boolean), [(0, .aload_n 0, 1, 1, 0, 0, 0, 0), (1, .invokevirtual 81, 3, 4, 1, 133, 1, 10), (4, .aload_n 0, 1, 5, 0, 0, 0, 0), (5, .iload_n 1, 1, 6, 0, 0, 0, 0), (6, .invokevirtual 120, 3, 9, 1, 149, 2, 10), (9, .aload_n 0, 1, 10, 0, 0, 0, 0), (10, .bipush 26, 2, 12, 0, 0, 0, 0), (12, .aload_n 0, 1, 13, 0, 0, 0, 0), (13, .getfield 114, 3, 16, 0, 10, 14, 0), (16, .invokevirtual 74, 3, 19, 1, 127, 3, 10), (19, .invokestatic 60, 3, 22, 0, 130, 1, 0), (22, .ifCond .ne 52, 3, 25, 74, 0, 0, 0), (25, .aload_n 0, 1, 26, 0, 0, 0, 0), (26, .bipush 26, 2, 28, 0, 0, 0, 0), (28, .invokevirtual 71, 3, 31, 1, 126, 2, 10), (31, .aload_n 0, 1, 32, 0, 0, 0, 0), (32, .aload_n 0, 1, 33, 0, 0, 0, 0), (33, .bipush 26, 2, 35, 0, 0, 0, 0), (35, .aload_n 0, 1, 36, 0, 0, 0, 0), (36, .getfield 114, 3, 39, 0, 10, 14, 0), (39, .invokevirtual 74, 3, 42, 1, 127, 3, 10), (42, .invokestatic 64, 3, 45, 0, 129, 1, 0), (45, .invokevirtual 71, 3, 48, 1, 126, 2, 10), (48, .iadd, 1, 49, 0, 0, 0, 0), (49, .iconst 1, 1, 50, 0, 0, 0, 0), (50, .isub, 1, 51, 0, 0, 0, 0), (51, .bipush 80, 2, 53, 0, 0, 0, 0), (53, .if_icmp .le 5, 3, 56, 58, 0, 0, 0), (56, .iconst 0, 1, 57, 0, 0, 0, 0), (57, .ireturn, 1, 58, 0, 0, 0, 0), (58, .aload_n 0, 1, 59, 0, 0, 0, 0), (59, .aload_n 0, 1, 60, 0, 0, 0, 0), (60, .getfield 114, 3, 63, 0, 10, 14, 0), (63, .invokevirtual 123, 3, 66, 1, 150, 2, 10), (66, .aload_n 0, 1, 67, 0, 0, 0, 0), (67, .iload_n 1, 1, 68, 0, 0, 0, 0), (68, .invokevirtual 120, 3, 71, 1, 149, 2, 10), (71, .goto (-62), 3, 74, 9, 0, 0, 0), (74, .iconst 1, 1, 75, 0, 0, 0, 0), (75, .ireturn, 1, 76, 0, 0, 0, 0)])
def k_X10_fails : MM := ((some .int), [(0, .aload_n 0, 1, 1, 0, 0, 0, 0), (1, .getfield 13, 3, 4, 0, 10, 1, 0), (4, .aload_n 0, 1, 5, 0, 0, 0, 0), (5, .getfield 7, 3, 8, 0, 10, 0, 0), (8, .invokestatic 126, 3, 11, 0, 124, 2, 0), (11, .iload_n 1, 1, 12, 0, 0, 0, 0), (12, .ireturn, 1, 13, 0, 0, 0, 0)])
def k_X10_put : MM := ((some .int), [(0, .iconst 0, 1, 1, 0, 0, 0, 0), (1, .istore_n 3, 1, 2, 0, 0, 0, 0), (2, .iconst 1, 1, 3, 0, 0, 0, 0), (3, .istore 4, 2, 5, 0, 0, 0, 0), (5, .lload_n 1, 1, 6, 0, 0, 0, 0), (6, .lstore 5, 2, 8, 0, 0, 0, 0), (8, .iload_n 3, 1, 9, 0, 0, 0, 0), (9, .bipush 8, 2, 11, 0, 0, 0, 0), (11, .if_icmp .ge 57, 3, 14, 68, 0, 0, 0), (14, .lload 5, 2, 16, 0, 0, 0, 0), (16, .ldc2_w 130, 3, 19, 0, 1, 255, 0), (19, .land, 1, 20, 0, 0, 0, 0), (20, .lconst 0, 1, 21, 0, 0, 0, 0), (21, .lcmp, 1, 22, 0, 0, 0, 0), (22, .ifCond .eq 46, 3, 25, 68, 0, 0, 0), (25, .iload 4, 2, 27, 0, 0, 0, 0), (27, .ifCond .eq 25, 3, 30, 52, 0, 0, 0), (30, .lload 5, 2, 32, 0, 0, 0, 0), (32, .ldc2_w 130, 3, 35, 0, 1, 255, 0), (35, .land, 1, 36, 0, 0, 0, 0), (36, .ldc2_w 132, 3, 39, 0, 1, 33, 0), (39, .ldc2_w 134, 3, 42, 0, 1, 126, 0), (42, .invokestatic 56, 3, 45, 0, 123, 3, 0), (45, .ifCond .eq 7, 3, 48, 52, 0, 0, 0), (48, .iconst 1, 1, 49, 0, 0, 0, 0), (49, .goto 4, 3, 52, 53, 0, 0, 0), (52, .iconst 0, 1, 53, 0, 0, 0, 0), (53, .istore 4, 2, 55, 0, 0, 0, 0), (55, .lload 5, 2, 57, 0, 0, 0, 0), (57, .bipush 8, 2, 59, 0, 0, 0, 0), (59, .lushr, 1, 60, 0, 0, 0, 0), (60, .lstore 5, 2, 62, 0, 0, 0, 0), (62, .iinc 3 1, 3, 65, 0, 0, 0, 0), (65, .goto (-57), 3, 68, 8, 0, 0, 0), (68, .iload_n 3, 1, 69, 0, 0, 0, 0), (69, .ifCond .eq 15, 3, 72, 84, 0, 0, 0), (72, .lload 5, 2, 74, 0, 0, 0, 0), (74, .lconst 0, 1, 75, 0, 0, 0, 0), (75, .lcmp, 1, 76, 0, 0, 0, 0), (76, .ifCond .ne 8, 3, 79, 84, 0, 0, 0), (79, .iload 4, 2, 81, 0, 0, 0, 0), (81, .ifCond .ne 6, 3, 84, 87, 0, 0, 0), (84, .bipush (-2), 2, 86, 0, 0, 0, 0), (86, .ireturn, 1, 87, 0, 0, 0, 0), (87, .aload_n 0, 1, 88, 0, 0, 0, 0), (88, .getfield 136, 3, 91, 0, 10, 17, 0), (91, .iload_n 3, 1, 92, 0, 0, 0, 0), (92, .iadd, 1, 93, 0, 0, 0, 0), (93, .bipush 80, 2, 95, 0, 0, 0, 0), (95, .if_icmp .le 6, 3, 98, 101, 0, 0, 0), (98, .bipush (-4), 2, 100, 0, 0, 0, 0), (100, .ireturn, 1, 101, 0, 0, 0, 0), (101, .iload_n 3, 1, 102, 0, 0, 0, 0), (102, .iconst 1, 1, 103, 0, 0, 0, 0), (103, .isub, 1, 104, 0, 0, 0, 0), (104, .istore 7, 2, 106, 0, 0, 0, 0), (106, .iload 7, 2, 108, 0, 0, 0, 0), (108, .ifCond .lt 40, 3, 111, 148, 0, 0, 0), (111, .aload_n 0, 1, 112, 0, 0, 0, 0), (112, .getfield 49, 3, 115, 0, 10, 16, 0), (115, .aload_n 0, 1, 116, 0, 0, 0, 0), (116, .getfield 136, 3, 119, 0, 10, 17, 0), (119, .lload_n 1, 1, 120, 0, 0, 0, 0), (120, .bipush 8, 2, 122, 0, 0, 0, 0), (122, .iload 7, 2, 124, 0, 0, 0, 0), (124, .imul, 1, 125, 0, 0, 0, 0), (125, .lushr, 1, 126, 0, 0, 0, 0), (126, .ldc2_w 130, 3, 129, 0, 1, 255, 0), (129, .land, 1, 130, 0, 0, 0, 0), (130, .l2i, 1, 131, 0, 0, 0, 0), (131, .iastore, 1, 132, 0, 0, 0, 0), (132, .aload_n 0, 1, 133, 0, 0, 0, 0), (133, .dup, 1, 134, 0, 0, 0, 0), (134, .getfield 136, 3, 137, 0, 10, 17, 0), (137, .iconst 1, 1, 138, 0, 0, 0, 0), (138, .iadd, 1, 139, 0, 0, 0, 0), (139, .putfield 136, 3, 142, 0, 10, 17, 0), (142, .iinc 7 (-1), 3, 145, 0, 0, 0, 0), (145, .goto (-39), 3, 148, 106, 0, 0, 0), (148, .aload_n 0, 1, 149, 0, 0, 0, 0), (149, .getfield 136, 3, 152, 0, 10, 17, 0), (152, .ireturn, 1, 153, 0, 0, 0, 0)])
def k_X10_wipe : MM := ((some .int), [(0, .aload_n 0, 1, 1, 0, 0, 0, 0), (1, .getfield 136, 3, 4, 0, 10, 17, 0), (4, .istore_n 1, 1, 5, 0, 0, 0, 0), (5, .aload_n 0, 1, 6, 0, 0, 0, 0), (6, .iconst 0, 1, 7, 0, 0, 0, 0), (7, .putfield 136, 3, 10, 0, 10, 17, 0), (10, .iload_n 1, 1, 11, 0, 0, 0, 0), (11, .ireturn, 1, 12, 0, 0, 0, 0)])
def k_X10_takes : MM := ((some .boolean), [(0, .aload_n 0, 1, 1, 0, 0, 0, 0), (1, .getfield 139, 3, 4, 0, 10, 18, 0), (4, .aload_n 0, 1, 5, 0, 0, 0, 0), (5, .getfield 136, 3, 8, 0, 10, 17, 0), (8, .if_icmp .ge 20, 3, 11, 28, 0, 0, 0), (11, .aload_n 0, 1, 12, 0, 0, 0, 0), (12, .getfield 49, 3, 15, 0, 10, 16, 0), (15, .aload_n 0, 1, 16, 0, 0, 0, 0), (16, .getfield 139, 3, 19, 0, 10, 18, 0), (19, .iaload, 1, 20, 0, 0, 0, 0), (20, .iload_n 1, 1, 21, 0, 0, 0, 0), (21, .if_icmp .ne 7, 3, 24, 28, 0, 0, 0), (24, .iconst 1, 1, 25, 0, 0, 0, 0), (25, .goto 4, 3, 28, 29, 0, 0, 0), (28, .iconst 0, 1, 29, 0, 0, 0, 0), (29, .istore_n 2, 1, 30, 0, 0, 0, 0), (30, .aload_n 0, 1, 31, 0, 0, 0, 0), (31, .dup, 1, 32, 0, 0, 0, 0), (32, .getfield 139, 3, 35, 0, 10, 18, 0), (35, .iload_n 2, 1, 36, 0, 0, 0, 0), (36, .ifCond .eq 7, 3, 39, 43, 0, 0, 0), (39, .iconst 1, 1, 40, 0, 0, 0, 0), (40, .goto 4, 3, 43, 44, 0, 0, 0), (43, .iconst 0, 1, 44, 0, 0, 0, 0), (44, .iadd, 1, 45, 0, 0, 0, 0), (45, .putfield 139, 3, 48, 0, 10, 18, 0), (48, .iload_n 2, 1, 49, 0, 0, 0, 0), (49, .ireturn, 1, 50, 0, 0, 0, 0)])
def k_X10_symbolOf : MM := ((some .int), [(0, .iload_n 0, 1, 1, 0, 0, 0, 0), (1, .i2l, 1, 2, 0, 0, 0, 0), (2, .ldc2_w 142, 3, 5, 0, 1, 97, 0), (5, .ldc2_w 144, 3, 8, 0, 1, 104, 0), (8, .invokestatic 56, 3, 11, 0, 123, 3, 0), (11, .ifCond .eq 10, 3, 14, 21, 0, 0, 0), (14, .iload_n 0, 1, 15, 0, 0, 0, 0), (15, .bipush 97, 2, 17, 0, 0, 0, 0), (17, .isub, 1, 18, 0, 0, 0, 0), (18, .goto 33, 3, 21, 51, 0, 0, 0), (21, .iload_n 0, 1, 22, 0, 0, 0, 0), (22, .i2l, 1, 23, 0, 0, 0, 0), (23, .ldc2_w 146, 3, 26, 0, 1, 65, 0), (26, .bipush 65, 2, 28, 0, 0, 0, 0), (28, .iload_n 1, 1, 29, 0, 0, 0, 0), (29, .iadd, 1, 30, 0, 0, 0, 0), (30, .i2l, 1, 31, 0, 0, 0, 0), (31, .lconst 1, 1, 32, 0, 0, 0, 0), (32, .lsub, 1, 33, 0, 0, 0, 0), (33, .invokestatic 56, 3, 36, 0, 123, 3, 0), (36, .ifCond .eq 13, 3, 39, 49, 0, 0, 0), (39, .bipush 8, 2, 41, 0, 0, 0, 0), (41, .iload_n 0, 1, 42, 0, 0, 0, 0), (42, .iadd, 1, 43, 0, 0, 0, 0), (43, .bipush 65, 2, 45, 0, 0, 0, 0), (45, .isub, 1, 46, 0, 0, 0, 0), (46, .goto 5, 3, 49, 51, 0, 0, 0), (49, .bipush (-6), 2, 51, 0, 0, 0, 0), (51, .ireturn, 1, 52, 0, 0, 0, 0)])
def k_X10_readsRow : MM := ((some .boolean), [(0, .iconst 0, 1, 1, 0, 0, 0, 0), (1, .istore_n 3, 1, 2, 0, 0, 0, 0), (2, .aload_n 0, 1, 3, 0, 0, 0, 0), (3, .getfield 139, 3, 6, 0, 10, 18, 0), (6, .aload_n 0, 1, 7, 0, 0, 0, 0), (7, .getfield 136, 3, 10, 0, 10, 17, 0), (10, .if_icmp .ge 63, 3, 13, 73, 0, 0, 0), (13, .aload_n 0, 1, 14, 0, 0, 0, 0), (14, .getfield 49, 3, 17, 0, 10, 16, 0), (17, .aload_n 0, 1, 18, 0, 0, 0, 0), (18, .getfield 139, 3, 21, 0, 10, 18, 0), (21, .iaload, 1, 22, 0, 0, 0, 0), (22, .iload_n 2, 1, 23, 0, 0, 0, 0), (23, .invokestatic 148, 3, 26, 0, 156, 2, 0), (26, .bipush (-6), 2, 28, 0, 0, 0, 0), (28, .if_icmp .eq 45, 3, 31, 73, 0, 0, 0), (31, .aload_n 0, 1, 32, 0, 0, 0, 0), (32, .getfield 16, 3, 35, 0, 10, 2, 0), (35, .bipush 81, 2, 37, 0, 0, 0, 0), (37, .iload_n 1, 1, 38, 0, 0, 0, 0), (38, .imul, 1, 39, 0, 0, 0, 0), (39, .iconst 1, 1, 40, 0, 0, 0, 0), (40, .iadd, 1, 41, 0, 0, 0, 0), (41, .iload_n 3, 1, 42, 0, 0, 0, 0), (42, .iadd, 1, 43, 0, 0, 0, 0), (43, .aload_n 0, 1, 44, 0, 0, 0, 0), (44, .getfield 49, 3, 47, 0, 10, 16, 0), (47, .aload_n 0, 1, 48, 0, 0, 0, 0), (48, .getfield 139, 3, 51, 0, 10, 18, 0), (51, .iaload, 1, 52, 0, 0, 0, 0), (52, .iload_n 2, 1, 53, 0, 0, 0, 0), (53, .invokestatic 148, 3, 56, 0, 156, 2, 0), (56, .iastore, 1, 57, 0, 0, 0, 0), (57, .iinc 3 1, 3, 60, 0, 0, 0, 0), (60, .aload_n 0, 1, 61, 0, 0, 0, 0), (61, .dup, 1, 62, 0, 0, 0, 0), (62, .getfield 139, 3, 65, 0, 10, 18, 0), (65, .iconst 1, 1, 66, 0, 0, 0, 0), (66, .iadd, 1, 67, 0, 0, 0, 0), (67, .putfield 139, 3, 70, 0, 10, 18, 0), (70, .goto (-68), 3, 73, 2, 0, 0, 0), (73, .aload_n 0, 1, 74, 0, 0, 0, 0), (74, .getfield 16, 3, 77, 0, 10, 2, 0), (77, .bipush 81, 2, 79, 0, 0, 0, 0), (79, .iload_n 1, 1, 80, 0, 0, 0, 0), (80, .imul, 1, 81, 0, 0, 0, 0), (81, .iload_n 3, 1, 82, 0, 0, 0, 0), (82, .iastore, 1, 83, 0, 0, 0, 0), (83, .iload_n 3, 1, 84, 0, 0, 0, 0), (84, .ifCond .le 7, 3, 87, 91, 0, 0, 0), (87, .iconst 1, 1, 88, 0, 0, 0, 0), (88, .goto 4, 3, 91, 92, 0, 0, 0), (91, .iconst 0, 1, 92, 0, 0, 0, 0), (92, .ireturn, 1, 93, 0, 0, 0, 0)])
def k_X10_fault : MM := ((some .int), [(0, .aload_n 0, 1, 1, 0, 0, 0, 0), (1, .iconst 0, 1, 2, 0, 0, 0, 0), (2, .putfield 139, 3, 5, 0, 10, 18, 0), (5, .iconst 0, 1, 6, 0, 0, 0, 0), (6, .istore_n 1, 1, 7, 0, 0, 0, 0), (7, .iload_n 1, 1, 8, 0, 0, 0, 0), (8, .bipush 26, 2, 10, 0, 0, 0, 0), (10, .if_icmp .ge 52, 3, 13, 62, 0, 0, 0), (13, .aload_n 0, 1, 14, 0, 0, 0, 0), (14, .bipush 65, 2, 16, 0, 0, 0, 0), (16, .iload_n 1, 1, 17, 0, 0, 0, 0), (17, .iadd, 1, 18, 0, 0, 0, 0), (18, .invokevirtual 151, 3, 21, 1, 155, 2, 10), (21, .ifCond .eq 41, 3, 24, 62, 0, 0, 0), (24, .aload_n 0, 1, 25, 0, 0, 0, 0), (25, .bipush 61, 2, 27, 0, 0, 0, 0), (27, .invokevirtual 151, 3, 30, 1, 155, 2, 10), (30, .ifCond .eq 21, 3, 33, 51, 0, 0, 0), (33, .aload_n 0, 1, 34, 0, 0, 0, 0), (34, .iload_n 1, 1, 35, 0, 0, 0, 0), (35, .iload_n 1, 1, 36, 0, 0, 0, 0), (36, .invokevirtual 154, 3, 39, 1, 157, 3, 10), (39, .ifCond .eq 12, 3, 42, 51, 0, 0, 0), (42, .aload_n 0, 1, 43, 0, 0, 0, 0), (43, .bipush 59, 2, 45, 0, 0, 0, 0), (45, .invokevirtual 151, 3, 48, 1, 155, 2, 10), (48, .ifCond .ne 8, 3, 51, 56, 0, 0, 0), (51, .aload_n 0, 1, 52, 0, 0, 0, 0), (52, .getfield 139, 3, 55, 0, 10, 18, 0), (55, .ireturn, 1, 56, 0, 0, 0, 0), (56, .iinc 1 1, 3, 59, 0, 0, 0, 0), (59, .goto (-52), 3, 62, 7, 0, 0, 0), (62, .aload_n 0, 1, 63, 0, 0, 0, 0), (63, .getfield 16, 3, 66, 0, 10, 2, 0), (66, .sipush 2187, 3, 69, 0, 0, 0, 0), (69, .iload_n 1, 1, 70, 0, 0, 0, 0), (70, .iastore, 1, 71, 0, 0, 0, 0), (71, .aload_n 0, 1, 72, 0, 0, 0, 0), (72, .bipush 26, 2, 74, 0, 0, 0, 0), (74, .iload_n 1, 1, 75, 0, 0, 0, 0), (75, .invokevirtual 154, 3, 78, 1, 157, 3, 10), (78, .ifCond .eq 19, 3, 81, 97, 0, 0, 0), (81, .aload_n 0, 1, 82, 0, 0, 0, 0), (82, .getfield 139, 3, 85, 0, 10, 18, 0), (85, .aload_n 0, 1, 86, 0, 0, 0, 0), (86, .getfield 136, 3, 89, 0, 10, 17, 0), (89, .if_icmp .ne 8, 3, 92, 97, 0, 0, 0), (92, .bipush (-6), 2, 94, 0, 0, 0, 0), (94, .goto 7, 3, 97, 101, 0, 0, 0), (97, .aload_n 0, 1, 98, 0, 0, 0, 0), (98, .getfield 139, 3, 101, 0, 10, 18, 0), (101, .ireturn, 1, 102, 0, 0, 0, 0)])
def k_X10_tell : MM := ((some .int), [(0, .aload_n 0, 1, 1, 0, 0, 0, 0), (1, .invokevirtual 158, 3, 4, 1, 158, 1, 10), (4, .bipush (-6), 2, 6, 0, 0, 0, 0), (6, .if_icmp .eq 6, 3, 9, 12, 0, 0, 0), (9, .bipush (-3), 2, 11, 0, 0, 0, 0), (11, .ireturn, 1, 12, 0, 0, 0, 0), (12, .aload_n 0, 1, 13, 0, 0, 0, 0), (13, .getfield 7, 3, 16, 0, 10, 0, 0), (16, .aload_n 0, 1, 17, 0, 0, 0, 0), (17, .getfield 13, 3, 20, 0, 10, 1, 0), (20, .invokestatic 126, 3, 23, 0, 124, 2, 0), (23, .aload_n 0, 1, 24, 0, 0, 0, 0), (24, .getfield 16, 3, 27, 0, 10, 2, 0), (27, .aload_n 0, 1, 28, 0, 0, 0, 0), (28, .getfield 7, 3, 31, 0, 10, 0, 0), (31, .invokestatic 126, 3, 34, 0, 124, 2, 0), (34, .aload_n 0, 1, 35, 0, 0, 0, 0), (35, .invokevirtual 81, 3, 38, 1, 133, 1, 10), (38, .aload_n 0, 1, 39, 0, 0, 0, 0), (39, .getfield 28, 3, 42, 0, 10, 7, 0), (42, .bipush 26, 2, 44, 0, 0, 0, 0), (44, .iaload, 1, 45, 0, 0, 0, 0), (45, .sipush 9999, 3, 48, 0, 0, 0, 0), (48, .if_icmp .gt 7, 3, 51, 55, 0, 0, 0), (51, .iconst 1, 1, 52, 0, 0, 0, 0), (52, .goto 4, 3, 55, 56, 0, 0, 0), (55, .iconst 0, 1, 56, 0, 0, 0, 0), (56, .istore_n 1, 1, 57, 0, 0, 0, 0), (57, .iconst 0, 1, 58, 0, 0, 0, 0), (58, .istore_n 2, 1, 59, 0, 0, 0, 0), (59, .iload_n 2, 1, 60, 0, 0, 0, 0), (60, .aload_n 0, 1, 61, 0, 0, 0, 0), (61, .getfield 7, 3, 64, 0, 10, 0, 0), (64, .sipush 2187, 3, 67, 0, 0, 0, 0), (67, .iaload, 1, 68, 0, 0, 0, 0), (68, .if_icmp .ge 31, 3, 71, 99, 0, 0, 0), (71, .iload_n 1, 1, 72, 0, 0, 0, 0), (72, .ifCond .eq 19, 3, 75, 91, 0, 0, 0), (75, .aload_n 0, 1, 76, 0, 0, 0, 0), (76, .getfield 28, 3, 79, 0, 10, 7, 0), (79, .iload_n 2, 1, 80, 0, 0, 0, 0), (80, .iaload, 1, 81, 0, 0, 0, 0), (81, .sipush 9999, 3, 84, 0, 0, 0, 0), (84, .if_icmp .gt 7, 3, 87, 91, 0, 0, 0), (87, .iconst 1, 1, 88, 0, 0, 0, 0), (88, .goto 4, 3, 91, 92, 0, 0, 0), (91, .iconst 0, 1, 92, 0, 0, 0, 0), (92, .istore_n 1, 1, 93, 0, 0, 0, 0), (93, .iinc 2 1, 3, 96, 0, 0, 0, 0), (96, .goto (-37), 3, 99, 59, 0, 0, 0), (99, .iload_n 1, 1, 100, 0, 0, 0, 0), (100, .ifCond .ne 10, 3, 103, 110, 0, 0, 0), (103, .aload_n 0, 1, 104, 0, 0, 0, 0), (104, .bipush (-4), 2, 106, 0, 0, 0, 0), (106, .invokevirtual 161, 3, 109, 1, 152, 2, 10), (109, .ireturn, 1, 110, 0, 0, 0, 0), (110, .aload_n 0, 1, 111, 0, 0, 0, 0), (111, .iconst 0, 1, 112, 0, 0, 0, 0), (112, .putfield 136, 3, 115, 0, 10, 17, 0), (115, .aload_n 0, 1, 116, 0, 0, 0, 0), (116, .aload_n 0, 1, 117, 0, 0, 0, 0), (117, .getfield 28, 3, 120, 0, 10, 7, 0), (120, .bipush 26, 2, 122, 0, 0, 0, 0), (122, .iaload, 1, 123, 0, 0, 0, 0), (123, .invokevirtual 164, 3, 126, 1, 125, 2, 10), (126, .ireturn, 1, 127, 0, 0, 0, 0)])
def k_X10_fold : MM := ((some .int), [(0, .iload_n 1, 1, 1, 0, 0, 0, 0), (1, .i2l, 1, 2, 0, 0, 0, 0), (2, .lconst 1, 1, 3, 0, 0, 0, 0), (3, .ldc2_w 167, 3, 6, 0, 1, 26, 0), (6, .invokestatic 56, 3, 9, 0, 123, 3, 0), (9, .ifCond .ne 6, 3, 12, 15, 0, 0, 0), (12, .bipush (-2), 2, 14, 0, 0, 0, 0), (14, .ireturn, 1, 15, 0, 0, 0, 0), (15, .aload_n 0, 1, 16, 0, 0, 0, 0), (16, .getfield 7, 3, 19, 0, 10, 0, 0), (19, .aload_n 0, 1, 20, 0, 0, 0, 0), (20, .getfield 13, 3, 23, 0, 10, 1, 0), (23, .invokestatic 126, 3, 26, 0, 124, 2, 0), (26, .iconst 0, 1, 27, 0, 0, 0, 0), (27, .istore_n 2, 1, 28, 0, 0, 0, 0), (28, .iload_n 2, 1, 29, 0, 0, 0, 0), (29, .iload_n 1, 1, 30, 0, 0, 0, 0), (30, .if_icmp .ge 16, 3, 33, 46, 0, 0, 0), (33, .aload_n 0, 1, 34, 0, 0, 0, 0), (34, .invokevirtual 169, 3, 37, 1, 142, 1, 10), (37, .ifCond .eq 9, 3, 40, 46, 0, 0, 0), (40, .iinc 2 1, 3, 43, 0, 0, 0, 0), (43, .goto (-15), 3, 46, 28, 0, 0, 0), (46, .iload_n 2, 1, 47, 0, 0, 0, 0), (47, .ifCond .ne 8, 3, 50, 55, 0, 0, 0), (50, .bipush (-5), 2, 52, 0, 0, 0, 0), (52, .goto 8, 3, 55, 60, 0, 0, 0), (55, .aload_n 0, 1, 56, 0, 0, 0, 0), (56, .iload_n 2, 1, 57, 0, 0, 0, 0), (57, .invokevirtual 164, 3, 60, 1, 125, 2, 10), (60, .ireturn, 1, 61, 0, 0, 0, 0)])
def k_X10_unroll : MM := ((some .int), [(0, .aload_n 0, 1, 1, 0, 0, 0, 0), (1, .iload_n 1, 1, 2, 0, 0, 0, 0), (2, .invokevirtual 173, 3, 5, 1, 128, 2, 10), (5, .ifCond .ne 5, 3, 8, 10, 0, 0, 0), (8, .iconst (-1), 1, 9, 0, 0, 0, 0), (9, .ireturn, 1, 10, 0, 0, 0, 0), (10, .aload_n 0, 1, 11, 0, 0, 0, 0), (11, .iload_n 1, 1, 12, 0, 0, 0, 0), (12, .invokevirtual 104, 3, 15, 1, 144, 2, 10), (15, .ifCond .ne 6, 3, 18, 21, 0, 0, 0), (18, .bipush (-4), 2, 20, 0, 0, 0, 0), (20, .ireturn, 1, 21, 0, 0, 0, 0), (21, .aload_n 0, 1, 22, 0, 0, 0, 0), (22, .getfield 7, 3, 25, 0, 10, 0, 0), (25, .aload_n 0, 1, 26, 0, 0, 0, 0), (26, .getfield 13, 3, 29, 0, 10, 1, 0), (29, .invokestatic 126, 3, 32, 0, 124, 2, 0), (32, .aload_n 0, 1, 33, 0, 0, 0, 0), (33, .iload_n 1, 1, 34, 0, 0, 0, 0), (34, .invokevirtual 101, 3, 37, 1, 135, 2, 10), (37, .istore_n 2, 1, 38, 0, 0, 0, 0), (38, .aload_n 0, 1, 39, 0, 0, 0, 0), (39, .iload_n 1, 1, 40, 0, 0, 0, 0), (40, .invokevirtual 110, 3, 43, 1, 146, 2, 10), (43, .aload_n 0, 1, 44, 0, 0, 0, 0), (44, .iload_n 2, 1, 45, 0, 0, 0, 0), (45, .invokevirtual 164, 3, 48, 1, 125, 2, 10), (48, .ireturn, 1, 49, 0, 0, 0, 0)])
def k_X10_prune : MM := ((some .int), [(0, .aload_n 0, 1, 1, 0, 0, 0, 0), (1, .getfield 7, 3, 4, 0, 10, 0, 0), (4, .aload_n 0, 1, 5, 0, 0, 0, 0), (5, .getfield 13, 3, 8, 0, 10, 1, 0), (8, .invokestatic 126, 3, 11, 0, 124, 2, 0), (11, .aload_n 0, 1, 12, 0, 0, 0, 0), (12, .aload_n 0, 1, 13, 0, 0, 0, 0), (13, .invokevirtual 176, 3, 16, 1, 148, 1, 10), (16, .invokevirtual 164, 3, 19, 1, 125, 2, 10), (19, .ireturn, 1, 20, 0, 0, 0, 0)])
def k_X10_edit : MM := ((some .int), [(0, .iload_n 1, 1, 1, 0, 0, 0, 0), (1, .i2l, 1, 2, 0, 0, 0, 0), (2, .lconst 0, 1, 3, 0, 0, 0, 0), (3, .aload_n 0, 1, 4, 0, 0, 0, 0), (4, .invokevirtual 179, 3, 7, 1, 134, 1, 10), (7, .i2l, 1, 8, 0, 0, 0, 0), (8, .lconst 1, 1, 9, 0, 0, 0, 0), (9, .lsub, 1, 10, 0, 0, 0, 0), (10, .invokestatic 56, 3, 13, 0, 123, 3, 0), (13, .ifCond .ne 5, 3, 16, 18, 0, 0, 0), (16, .iconst (-1), 1, 17, 0, 0, 0, 0), (17, .ireturn, 1, 18, 0, 0, 0, 0), (18, .iload_n 2, 1, 19, 0, 0, 0, 0), (19, .i2l, 1, 20, 0, 0, 0, 0), (20, .lconst 0, 1, 21, 0, 0, 0, 0), (21, .ldc2_w 182, 3, 24, 0, 1, 7, 0), (24, .invokestatic 56, 3, 27, 0, 123, 3, 0), (27, .ifCond .ne 6, 3, 30, 33, 0, 0, 0), (30, .bipush (-2), 2, 32, 0, 0, 0, 0), (32, .ireturn, 1, 33, 0, 0, 0, 0), (33, .aload_n 0, 1, 34, 0, 0, 0, 0), (34, .getfield 7, 3, 37, 0, 10, 0, 0), (37, .aload_n 0, 1, 38, 0, 0, 0, 0), (38, .getfield 13, 3, 41, 0, 10, 1, 0), (41, .invokestatic 126, 3, 44, 0, 124, 2, 0), (44, .aload_n 0, 1, 45, 0, 0, 0, 0), (45, .iload_n 1, 1, 46, 0, 0, 0, 0), (46, .invokevirtual 184, 3, 49, 1, 151, 2, 10), (49, .ifCond .ne 10, 3, 52, 59, 0, 0, 0), (52, .aload_n 0, 1, 53, 0, 0, 0, 0), (53, .bipush (-4), 2, 55, 0, 0, 0, 0), (55, .invokevirtual 161, 3, 58, 1, 152, 2, 10), (58, .ireturn, 1, 59, 0, 0, 0, 0), (59, .aload_n 0, 1, 60, 0, 0, 0, 0), (60, .bipush 26, 2, 62, 0, 0, 0, 0), (62, .aload_n 0, 1, 63, 0, 0, 0, 0), (63, .getfield 114, 3, 66, 0, 10, 14, 0), (66, .invokevirtual 74, 3, 69, 1, 127, 3, 10), (69, .istore_n 3, 1, 70, 0, 0, 0, 0), (70, .aload_n 0, 1, 71, 0, 0, 0, 0), (71, .getfield 7, 3, 74, 0, 10, 0, 0), (74, .sipush 2107, 3, 77, 0, 0, 0, 0), (77, .aload_n 0, 1, 78, 0, 0, 0, 0), (78, .getfield 114, 3, 81, 0, 10, 14, 0), (81, .iadd, 1, 82, 0, 0, 0, 0), (82, .iload_n 2, 1, 83, 0, 0, 0, 0), (83, .iastore, 1, 84, 0, 0, 0, 0), (84, .aload_n 0, 1, 85, 0, 0, 0, 0), (85, .iload_n 3, 1, 86, 0, 0, 0, 0), (86, .invokevirtual 164, 3, 89, 1, 125, 2, 10), (89, .ireturn, 1, 90, 0, 0, 0, 0)])
def k_X10_isFirst : MM := ((some .boolean), [(0, .iload_n 1, 1, 1, 0, 0, 0, 0), (1, .aload_n 0, 1, 2, 0, 0, 0, 0), (2, .getfield 28, 3, 5, 0, 10, 7, 0), (5, .bipush 26, 2, 7, 0, 0, 0, 0), (7, .iaload, 1, 8, 0, 0, 0, 0), (8, .if_icmp .ne 15, 3, 11, 23, 0, 0, 0), (11, .aload_n 0, 1, 12, 0, 0, 0, 0), (12, .aload_n 0, 1, 13, 0, 0, 0, 0), (13, .bipush 26, 2, 15, 0, 0, 0, 0), (15, .invokevirtual 71, 3, 18, 1, 126, 2, 10), (18, .putfield 114, 3, 21, 0, 10, 14, 0), (21, .iconst 1, 1, 22, 0, 0, 0, 0), (22, .ireturn, 1, 23, 0, 0, 0, 0), (23, .aload_n 0, 1, 24, 0, 0, 0, 0), (24, .iload_n 1, 1, 25, 0, 0, 0, 0), (25, .invokevirtual 120, 3, 28, 1, 149, 2, 10), (28, .aload_n 0, 1, 29, 0, 0, 0, 0), (29, .getfield 117, 3, 32, 0, 10, 15, 0), (32, .ifCond .ne 7, 3, 35, 39, 0, 0, 0), (35, .iconst 1, 1, 36, 0, 0, 0, 0), (36, .goto 4, 3, 39, 40, 0, 0, 0), (39, .iconst 0, 1, 40, 0, 0, 0, 0), (40, .ireturn, 1, 41, 0, 0, 0, 0)])
def k_X10_insert : MM := ((some .int), [(0, .aload_n 0, 1, 1, 0, 0, 0, 0), (1, .invokevirtual 179, 3, 4, 1, 134, 1, 10), (4, .istore_n 3, 1, 5, 0, 0, 0, 0), (5, .iload_n 1, 1, 6, 0, 0, 0, 0), (6, .i2l, 1, 7, 0, 0, 0, 0), (7, .lconst 0, 1, 8, 0, 0, 0, 0), (8, .iload_n 3, 1, 9, 0, 0, 0, 0), (9, .i2l, 1, 10, 0, 0, 0, 0), (10, .invokestatic 56, 3, 13, 0, 123, 3, 0), (13, .ifCond .ne 5, 3, 16, 18, 0, 0, 0), (16, .iconst (-1), 1, 17, 0, 0, 0, 0), (17, .ireturn, 1, 18, 0, 0, 0, 0), (18, .iload_n 2, 1, 19, 0, 0, 0, 0), (19, .i2l, 1, 20, 0, 0, 0, 0), (20, .lconst 0, 1, 21, 0, 0, 0, 0), (21, .ldc2_w 182, 3, 24, 0, 1, 7, 0), (24, .invokestatic 56, 3, 27, 0, 123, 3, 0), (27, .ifCond .ne 6, 3, 30, 33, 0, 0, 0), (30, .bipush (-2), 2, 32, 0, 0, 0, 0), (32, .ireturn, 1, 33, 0, 0, 0, 0), (33, .aload_n 0, 1, 34, 0, 0, 0, 0), (34, .getfield 7, 3, 37, 0, 10, 0, 0), (37, .aload_n 0, 1, 38, 0, 0, 0, 0), (38, .getfield 13, 3, 41, 0, 10, 1, 0), (41, .invokestatic 126, 3, 44, 0, 124, 2, 0), (44, .iload_n 3, 1, 45, 0, 0, 0, 0), (45, .sipush 9999, 3, 48, 0, 0, 0, 0), (48, .if_icmp .eq 30, 3, 51, 78, 0, 0, 0), (51, .aload_n 0, 1, 52, 0, 0, 0, 0), (52, .iload_n 1, 1, 53, 0, 0, 0, 0), (53, .invokevirtual 187, 3, 56, 1, 164, 2, 10), (56, .ifCond .ne 11, 3, 59, 67, 0, 0, 0), (59, .aload_n 0, 1, 60, 0, 0, 0, 0), (60, .iload_n 1, 1, 61, 0, 0, 0, 0), (61, .invokevirtual 184, 3, 64, 1, 151, 2, 10), (64, .ifCond .eq 14, 3, 67, 78, 0, 0, 0), (67, .aload_n 0, 1, 68, 0, 0, 0, 0), (68, .bipush 26, 2, 70, 0, 0, 0, 0), (70, .invokevirtual 71, 3, 73, 1, 126, 2, 10), (73, .bipush 80, 2, 75, 0, 0, 0, 0), (75, .if_icmp .ne 10, 3, 78, 85, 0, 0, 0), (78, .aload_n 0, 1, 79, 0, 0, 0, 0), (79, .bipush (-4), 2, 81, 0, 0, 0, 0), (81, .invokevirtual 161, 3, 84, 1, 152, 2, 10), (84, .ireturn, 1, 85, 0, 0, 0, 0), (85, .sipush 2107, 3, 88, 0, 0, 0, 0), (88, .aload_n 0, 1, 89, 0, 0, 0, 0), (89, .bipush 26, 2, 91, 0, 0, 0, 0), (91, .invokevirtual 71, 3, 94, 1, 126, 2, 10), (94, .iadd, 1, 95, 0, 0, 0, 0), (95, .istore 4, 2, 97, 0, 0, 0, 0), (97, .iload 4, 2, 99, 0, 0, 0, 0), (99, .sipush 2107, 3, 102, 0, 0, 0, 0), (102, .aload_n 0, 1, 103, 0, 0, 0, 0), (103, .getfield 114, 3, 106, 0, 10, 14, 0), (106, .iadd, 1, 107, 0, 0, 0, 0), (107, .if_icmp .le 25, 3, 110, 132, 0, 0, 0), (110, .aload_n 0, 1, 111, 0, 0, 0, 0), (111, .getfield 7, 3, 114, 0, 10, 0, 0), (114, .iload 4, 2, 116, 0, 0, 0, 0), (116, .aload_n 0, 1, 117, 0, 0, 0, 0), (117, .getfield 7, 3, 120, 0, 10, 0, 0), (120, .iload 4, 2, 122, 0, 0, 0, 0), (122, .iconst 1, 1, 123, 0, 0, 0, 0), (123, .isub, 1, 124, 0, 0, 0, 0), (124, .iaload, 1, 125, 0, 0, 0, 0), (125, .iastore, 1, 126, 0, 0, 0, 0), (126, .iinc 4 (-1), 3, 129, 0, 0, 0, 0), (129, .goto (-32), 3, 132, 97, 0, 0, 0), (132, .aload_n 0, 1, 133, 0, 0, 0, 0), (133, .getfield 7, 3, 136, 0, 10, 0, 0), (136, .sipush 2107, 3, 139, 0, 0, 0, 0), (139, .aload_n 0, 1, 140, 0, 0, 0, 0), (140, .getfield 114, 3, 143, 0, 10, 14, 0), (143, .iadd, 1, 144, 0, 0, 0, 0), (144, .iload_n 2, 1, 145, 0, 0, 0, 0), (145, .iastore, 1, 146, 0, 0, 0, 0), (146, .aload_n 0, 1, 147, 0, 0, 0, 0), (147, .getfield 7, 3, 150, 0, 10, 0, 0), (150, .sipush 2106, 3, 153, 0, 0, 0, 0), (153, .dup2, 1, 154, 0, 0, 0, 0), (154, .iaload, 1, 155, 0, 0, 0, 0), (155, .iconst 1, 1, 156, 0, 0, 0, 0), (156, .iadd, 1, 157, 0, 0, 0, 0), (157, .iastore, 1, 158, 0, 0, 0, 0), (158, .aload_n 0, 1, 159, 0, 0, 0, 0), (159, .iload_n 3, 1, 160, 0, 0, 0, 0), (160, .iconst 1, 1, 161, 0, 0, 0, 0), (161, .iadd, 1, 162, 0, 0, 0, 0), (162, .invokevirtual 164, 3, 165, 1, 125, 2, 10), (165, .ireturn, 1, 166, 0, 0, 0, 0)])
def k_X10_delete : MM := ((some .int), [(0, .iload_n 1, 1, 1, 0, 0, 0, 0), (1, .i2l, 1, 2, 0, 0, 0, 0), (2, .lconst 0, 1, 3, 0, 0, 0, 0), (3, .aload_n 0, 1, 4, 0, 0, 0, 0), (4, .invokevirtual 179, 3, 7, 1, 134, 1, 10), (7, .i2l, 1, 8, 0, 0, 0, 0), (8, .lconst 1, 1, 9, 0, 0, 0, 0), (9, .lsub, 1, 10, 0, 0, 0, 0), (10, .invokestatic 56, 3, 13, 0, 123, 3, 0), (13, .ifCond .ne 5, 3, 16, 18, 0, 0, 0), (16, .iconst (-1), 1, 17, 0, 0, 0, 0), (17, .ireturn, 1, 18, 0, 0, 0, 0), (18, .aload_n 0, 1, 19, 0, 0, 0, 0), (19, .getfield 7, 3, 22, 0, 10, 0, 0), (22, .aload_n 0, 1, 23, 0, 0, 0, 0), (23, .getfield 13, 3, 26, 0, 10, 1, 0), (26, .invokestatic 126, 3, 29, 0, 124, 2, 0), (29, .aload_n 0, 1, 30, 0, 0, 0, 0), (30, .iload_n 1, 1, 31, 0, 0, 0, 0), (31, .invokevirtual 184, 3, 34, 1, 151, 2, 10), (34, .ifCond .ne 10, 3, 37, 44, 0, 0, 0), (37, .aload_n 0, 1, 38, 0, 0, 0, 0), (38, .bipush (-4), 2, 40, 0, 0, 0, 0), (40, .invokevirtual 161, 3, 43, 1, 152, 2, 10), (43, .ireturn, 1, 44, 0, 0, 0, 0), (44, .aload_n 0, 1, 45, 0, 0, 0, 0), (45, .bipush 26, 2, 47, 0, 0, 0, 0), (47, .aload_n 0, 1, 48, 0, 0, 0, 0), (48, .getfield 114, 3, 51, 0, 10, 14, 0), (51, .invokevirtual 74, 3, 54, 1, 127, 3, 10), (54, .istore_n 2, 1, 55, 0, 0, 0, 0), (55, .aload_n 0, 1, 56, 0, 0, 0, 0), (56, .getfield 7, 3, 59, 0, 10, 0, 0), (59, .sipush 2106, 3, 62, 0, 0, 0, 0), (62, .dup2, 1, 63, 0, 0, 0, 0), (63, .iaload, 1, 64, 0, 0, 0, 0), (64, .iconst 1, 1, 65, 0, 0, 0, 0), (65, .isub, 1, 66, 0, 0, 0, 0), (66, .iastore, 1, 67, 0, 0, 0, 0), (67, .sipush 2107, 3, 70, 0, 0, 0, 0), (70, .aload_n 0, 1, 71, 0, 0, 0, 0), (71, .getfield 114, 3, 74, 0, 10, 14, 0), (74, .iadd, 1, 75, 0, 0, 0, 0), (75, .istore_n 3, 1, 76, 0, 0, 0, 0), (76, .iload_n 3, 1, 77, 0, 0, 0, 0), (77, .sipush 2107, 3, 80, 0, 0, 0, 0), (80, .aload_n 0, 1, 81, 0, 0, 0, 0), (81, .bipush 26, 2, 83, 0, 0, 0, 0), (83, .invokevirtual 71, 3, 86, 1, 126, 2, 10), (86, .iadd, 1, 87, 0, 0, 0, 0), (87, .if_icmp .ge 23, 3, 90, 110, 0, 0, 0), (90, .aload_n 0, 1, 91, 0, 0, 0, 0), (91, .getfield 7, 3, 94, 0, 10, 0, 0), (94, .iload_n 3, 1, 95, 0, 0, 0, 0), (95, .aload_n 0, 1, 96, 0, 0, 0, 0), (96, .getfield 7, 3, 99, 0, 10, 0, 0), (99, .iload_n 3, 1, 100, 0, 0, 0, 0), (100, .iconst 1, 1, 101, 0, 0, 0, 0), (101, .iadd, 1, 102, 0, 0, 0, 0), (102, .iaload, 1, 103, 0, 0, 0, 0), (103, .iastore, 1, 104, 0, 0, 0, 0), (104, .iinc 3 1, 3, 107, 0, 0, 0, 0), (107, .goto (-31), 3, 110, 76, 0, 0, 0), (110, .aload_n 0, 1, 111, 0, 0, 0, 0), (111, .iload_n 2, 1, 112, 0, 0, 0, 0), (112, .invokevirtual 164, 3, 115, 1, 125, 2, 10), (115, .ireturn, 1, 116, 0, 0, 0, 0)])
def k_X10_letter : MM := ((some .int), [(0, .iload_n 1, 1, 1, 0, 0, 0, 0), (1, .i2l, 1, 2, 0, 0, 0, 0), (2, .lconst 0, 1, 3, 0, 0, 0, 0), (3, .aload_n 0, 1, 4, 0, 0, 0, 0), (4, .invokevirtual 179, 3, 7, 1, 134, 1, 10), (7, .i2l, 1, 8, 0, 0, 0, 0), (8, .lconst 1, 1, 9, 0, 0, 0, 0), (9, .lsub, 1, 10, 0, 0, 0, 0), (10, .invokestatic 56, 3, 13, 0, 123, 3, 0), (13, .ifCond .ne 5, 3, 16, 18, 0, 0, 0), (16, .iconst (-1), 1, 17, 0, 0, 0, 0), (17, .ireturn, 1, 18, 0, 0, 0, 0), (18, .bipush 26, 2, 20, 0, 0, 0, 0), (20, .istore_n 2, 1, 21, 0, 0, 0, 0), (21, .iload_n 1, 1, 22, 0, 0, 0, 0), (22, .istore_n 3, 1, 23, 0, 0, 0, 0), (23, .bipush 8, 2, 25, 0, 0, 0, 0), (25, .istore 4, 2, 27, 0, 0, 0, 0), (27, .iload 4, 2, 29, 0, 0, 0, 0), (29, .invokestatic 60, 3, 32, 0, 130, 1, 0), (32, .ifCond .ne 59, 3, 35, 91, 0, 0, 0), (35, .iconst 0, 1, 36, 0, 0, 0, 0), (36, .istore 5, 2, 38, 0, 0, 0, 0), (38, .iload_n 3, 1, 39, 0, 0, 0, 0), (39, .aload_n 0, 1, 40, 0, 0, 0, 0), (40, .aload_n 0, 1, 41, 0, 0, 0, 0), (41, .iload_n 2, 1, 42, 0, 0, 0, 0), (42, .iload 5, 2, 44, 0, 0, 0, 0), (44, .invokevirtual 74, 3, 47, 1, 127, 3, 10), (47, .invokevirtual 78, 3, 50, 1, 132, 2, 10), (50, .if_icmp .lt 23, 3, 53, 73, 0, 0, 0), (53, .iload_n 3, 1, 54, 0, 0, 0, 0), (54, .aload_n 0, 1, 55, 0, 0, 0, 0), (55, .aload_n 0, 1, 56, 0, 0, 0, 0), (56, .iload_n 2, 1, 57, 0, 0, 0, 0), (57, .iload 5, 2, 59, 0, 0, 0, 0), (59, .invokevirtual 74, 3, 62, 1, 127, 3, 10), (62, .invokevirtual 78, 3, 65, 1, 132, 2, 10), (65, .isub, 1, 66, 0, 0, 0, 0), (66, .istore_n 3, 1, 67, 0, 0, 0, 0), (67, .iinc 5 1, 3, 70, 0, 0, 0, 0), (70, .goto (-32), 3, 73, 38, 0, 0, 0), (73, .aload_n 0, 1, 74, 0, 0, 0, 0), (74, .iload_n 2, 1, 75, 0, 0, 0, 0), (75, .iload 5, 2, 77, 0, 0, 0, 0), (77, .invokevirtual 74, 3, 80, 1, 127, 3, 10), (80, .istore 4, 2, 82, 0, 0, 0, 0), (82, .iload 4, 2, 84, 0, 0, 0, 0), (84, .invokestatic 64, 3, 87, 0, 129, 1, 0), (87, .istore_n 2, 1, 88, 0, 0, 0, 0), (88, .goto (-61), 3, 91, 27, 0, 0, 0), (91, .iload 4, 2, 93, 0, 0, 0, 0), (93, .ireturn, 1, 94, 0, 0, 0, 0)])
def k_X10_symbol : MM := ((some .int), [(0, .iload_n 1, 1, 1, 0, 0, 0, 0), (1, .bipush (-6), 2, 3, 0, 0, 0, 0), (3, .if_icmp .eq 13, 3, 6, 16, 0, 0, 0), (6, .aload_n 0, 1, 7, 0, 0, 0, 0), (7, .iload_n 1, 1, 8, 0, 0, 0, 0), (8, .invokevirtual 173, 3, 11, 1, 128, 2, 10), (11, .ifCond .ne 5, 3, 14, 16, 0, 0, 0), (14, .iconst (-1), 1, 15, 0, 0, 0, 0), (15, .ireturn, 1, 16, 0, 0, 0, 0), (16, .iload_n 1, 1, 17, 0, 0, 0, 0), (17, .bipush (-6), 2, 19, 0, 0, 0, 0), (19, .if_icmp .ne 8, 3, 22, 27, 0, 0, 0), (22, .bipush 26, 2, 24, 0, 0, 0, 0), (24, .goto 4, 3, 27, 28, 0, 0, 0), (27, .iload_n 1, 1, 28, 0, 0, 0, 0), (28, .istore_n 3, 1, 29, 0, 0, 0, 0), (29, .iload_n 2, 1, 30, 0, 0, 0, 0), (30, .i2l, 1, 31, 0, 0, 0, 0), (31, .lconst 0, 1, 32, 0, 0, 0, 0), (32, .aload_n 0, 1, 33, 0, 0, 0, 0), (33, .iload_n 3, 1, 34, 0, 0, 0, 0), (34, .invokevirtual 71, 3, 37, 1, 126, 2, 10), (37, .i2l, 1, 38, 0, 0, 0, 0), (38, .lconst 1, 1, 39, 0, 0, 0, 0), (39, .lsub, 1, 40, 0, 0, 0, 0), (40, .invokestatic 56, 3, 43, 0, 123, 3, 0), (43, .ifCond .eq 12, 3, 46, 55, 0, 0, 0), (46, .aload_n 0, 1, 47, 0, 0, 0, 0), (47, .iload_n 3, 1, 48, 0, 0, 0, 0), (48, .iload_n 2, 1, 49, 0, 0, 0, 0), (49, .invokevirtual 74, 3, 52, 1, 127, 3, 10), (52, .goto 4, 3, 55, 56, 0, 0, 0), (55, .iconst (-1), 1, 56, 0, 0, 0, 0), (56, .ireturn, 1, 57, 0, 0, 0, 0)])
def k_X10_ofRule : MM := ((some .int), [(0, .aload_n 0, 1, 1, 0, 0, 0, 0), (1, .iload_n 1, 1, 2, 0, 0, 0, 0), (2, .invokevirtual 173, 3, 5, 1, 128, 2, 10), (5, .ifCond .ne 5, 3, 8, 10, 0, 0, 0), (8, .iconst (-1), 1, 9, 0, 0, 0, 0), (9, .ireturn, 1, 10, 0, 0, 0, 0), (10, .aload_n 0, 1, 11, 0, 0, 0, 0), (11, .invokevirtual 81, 3, 14, 1, 133, 1, 10), (14, .aload_n 0, 1, 15, 0, 0, 0, 0), (15, .invokevirtual 190, 3, 18, 1, 136, 1, 10), (18, .iload_n 2, 1, 19, 0, 0, 0, 0), (19, .tableswitch 55 0 3 #[29, 35, 42, 48], 29, 48, 0, 0, 0, 0), (48, .aload_n 0, 1, 49, 0, 0, 0, 0), (49, .iload_n 1, 1, 50, 0, 0, 0, 0), (50, .invokevirtual 71, 3, 53, 1, 126, 2, 10), (53, .ireturn, 1, 54, 0, 0, 0, 0), (54, .aload_n 0, 1, 55, 0, 0, 0, 0), (55, .getfield 28, 3, 58, 0, 10, 7, 0), (58, .iload_n 1, 1, 59, 0, 0, 0, 0), (59, .iaload, 1, 60, 0, 0, 0, 0), (60, .ireturn, 1, 61, 0, 0, 0, 0), (61, .aload_n 0, 1, 62, 0, 0, 0, 0), (62, .iload_n 1, 1, 63, 0, 0, 0, 0), (63, .invokevirtual 101, 3, 66, 1, 135, 2, 10), (66, .ireturn, 1, 67, 0, 0, 0, 0), (67, .aload_n 0, 1, 68, 0, 0, 0, 0), (68, .getfield 31, 3, 71, 0, 10, 8, 0), (71, .iload_n 1, 1, 72, 0, 0, 0, 0), (72, .iaload, 1, 73, 0, 0, 0, 0), (73, .ireturn, 1, 74, 0, 0, 0, 0), (74, .bipush (-2), 2, 76, 0, 0, 0, 0), (76, .ireturn, 1, 77, 0, 0, 0, 0)])
def k_X10_deepest : MM := ((some .int), [(0, .aload_n 0, 1, 1, 0, 0, 0, 0), (1, .invokevirtual 190, 3, 4, 1, 136, 1, 10), (4, .iconst 0, 1, 5, 0, 0, 0, 0), (5, .istore_n 1, 1, 6, 0, 0, 0, 0), (6, .iconst 0, 1, 7, 0, 0, 0, 0), (7, .istore_n 2, 1, 8, 0, 0, 0, 0), (8, .iload_n 2, 1, 9, 0, 0, 0, 0), (9, .aload_n 0, 1, 10, 0, 0, 0, 0), (10, .getfield 7, 3, 13, 0, 10, 0, 0), (13, .sipush 2187, 3, 16, 0, 0, 0, 0), (16, .iaload, 1, 17, 0, 0, 0, 0), (17, .if_icmp .ge 30, 3, 20, 47, 0, 0, 0), (20, .aload_n 0, 1, 21, 0, 0, 0, 0), (21, .getfield 31, 3, 24, 0, 10, 8, 0), (24, .iload_n 2, 1, 25, 0, 0, 0, 0), (25, .iaload, 1, 26, 0, 0, 0, 0), (26, .iload_n 1, 1, 27, 0, 0, 0, 0), (27, .if_icmp .le 12, 3, 30, 39, 0, 0, 0), (30, .aload_n 0, 1, 31, 0, 0, 0, 0), (31, .getfield 31, 3, 34, 0, 10, 8, 0), (34, .iload_n 2, 1, 35, 0, 0, 0, 0), (35, .iaload, 1, 36, 0, 0, 0, 0), (36, .goto 4, 3, 39, 40, 0, 0, 0), (39, .iload_n 1, 1, 40, 0, 0, 0, 0), (40, .istore_n 1, 1, 41, 0, 0, 0, 0), (41, .iinc 2 1, 3, 44, 0, 0, 0, 0), (44, .goto (-36), 3, 47, 8, 0, 0, 0), (47, .iload_n 1, 1, 48, 0, 0, 0, 0), (48, .ireturn, 1, 49, 0, 0, 0, 0)])
def k_X10_notUsed : MM := ((some .int), [(0, .iconst 0, 1, 1, 0, 0, 0, 0), (1, .istore_n 1, 1, 2, 0, 0, 0, 0), (2, .iconst 0, 1, 3, 0, 0, 0, 0), (3, .istore_n 2, 1, 4, 0, 0, 0, 0), (4, .iload_n 2, 1, 5, 0, 0, 0, 0), (5, .aload_n 0, 1, 6, 0, 0, 0, 0), (6, .getfield 7, 3, 9, 0, 10, 0, 0), (9, .sipush 2187, 3, 12, 0, 0, 0, 0), (12, .iaload, 1, 13, 0, 0, 0, 0), (13, .if_icmp .ge 25, 3, 16, 38, 0, 0, 0), (16, .iload_n 1, 1, 17, 0, 0, 0, 0), (17, .aload_n 0, 1, 18, 0, 0, 0, 0), (18, .iload_n 2, 1, 19, 0, 0, 0, 0), (19, .invokevirtual 101, 3, 22, 1, 135, 2, 10), (22, .ifCond .ne 7, 3, 25, 29, 0, 0, 0), (25, .iconst 1, 1, 26, 0, 0, 0, 0), (26, .goto 4, 3, 29, 30, 0, 0, 0), (29, .iconst 0, 1, 30, 0, 0, 0, 0), (30, .iadd, 1, 31, 0, 0, 0, 0), (31, .istore_n 1, 1, 32, 0, 0, 0, 0), (32, .iinc 2 1, 3, 35, 0, 0, 0, 0), (35, .goto (-31), 3, 38, 4, 0, 0, 0), (38, .iload_n 1, 1, 39, 0, 0, 0, 0), (39, .ireturn, 1, 40, 0, 0, 0, 0)])
def k_X10_count : MM := ((some .int), [(0, .iload_n 1, 1, 1, 0, 0, 0, 0), (1, .tableswitch 93 0 7 #[47, 52, 59, 68, 73, 78, 83, 88], 47, 48, 0, 0, 0, 0), (48, .aload_n 0, 1, 49, 0, 0, 0, 0), (49, .invokevirtual 179, 3, 52, 1, 134, 1, 10), (52, .ireturn, 1, 53, 0, 0, 0, 0), (53, .aload_n 0, 1, 54, 0, 0, 0, 0), (54, .bipush 26, 2, 56, 0, 0, 0, 0), (56, .invokevirtual 71, 3, 59, 1, 126, 2, 10), (59, .ireturn, 1, 60, 0, 0, 0, 0), (60, .aload_n 0, 1, 61, 0, 0, 0, 0), (61, .getfield 7, 3, 64, 0, 10, 0, 0), (64, .sipush 2187, 3, 67, 0, 0, 0, 0), (67, .iaload, 1, 68, 0, 0, 0, 0), (68, .ireturn, 1, 69, 0, 0, 0, 0), (69, .aload_n 0, 1, 70, 0, 0, 0, 0), (70, .invokevirtual 193, 3, 73, 1, 137, 1, 10), (73, .ireturn, 1, 74, 0, 0, 0, 0), (74, .aload_n 0, 1, 75, 0, 0, 0, 0), (75, .invokevirtual 196, 3, 78, 1, 170, 1, 10), (78, .ireturn, 1, 79, 0, 0, 0, 0), (79, .aload_n 0, 1, 80, 0, 0, 0, 0), (80, .invokevirtual 199, 3, 83, 1, 171, 1, 10), (83, .ireturn, 1, 84, 0, 0, 0, 0), (84, .aload_n 0, 1, 85, 0, 0, 0, 0), (85, .getfield 136, 3, 88, 0, 10, 17, 0), (88, .ireturn, 1, 89, 0, 0, 0, 0), (89, .aload_n 0, 1, 90, 0, 0, 0, 0), (90, .getfield 52, 3, 93, 0, 10, 4, 0), (93, .ireturn, 1, 94, 0, 0, 0, 0), (94, .bipush (-2), 2, 96, 0, 0, 0, 0), (96, .ireturn, 1, 97, 0, 0, 0, 0)])
def k_X10_isSymbol : MM := ((some .boolean), [(0, .iload_n 1, 1, 1, 0, 0, 0, 0), (1, .i2l, 1, 2, 0, 0, 0, 0), (2, .lconst 0, 1, 3, 0, 0, 0, 0), (3, .bipush 8, 2, 5, 0, 0, 0, 0), (5, .aload_n 0, 1, 6, 0, 0, 0, 0), (6, .getfield 7, 3, 9, 0, 10, 0, 0), (9, .sipush 2187, 3, 12, 0, 0, 0, 0), (12, .iaload, 1, 13, 0, 0, 0, 0), (13, .iadd, 1, 14, 0, 0, 0, 0), (14, .i2l, 1, 15, 0, 0, 0, 0), (15, .lconst 1, 1, 16, 0, 0, 0, 0), (16, .lsub, 1, 17, 0, 0, 0, 0), (17, .invokestatic 56, 3, 20, 0, 123, 3, 0), (20, .ireturn, 1, 21, 0, 0, 0, 0)])
def k_X10_pair : MM := ((some .int), [(0, .aload_n 0, 1, 1, 0, 0, 0, 0), (1, .iload_n 1, 1, 2, 0, 0, 0, 0), (2, .invokevirtual 202, 3, 5, 1, 173, 2, 10), (5, .ifCond .eq 20, 3, 8, 25, 0, 0, 0), (8, .aload_n 0, 1, 9, 0, 0, 0, 0), (9, .iload_n 2, 1, 10, 0, 0, 0, 0), (10, .invokevirtual 202, 3, 13, 1, 173, 2, 10), (13, .ifCond .eq 12, 3, 16, 25, 0, 0, 0), (16, .aload_n 0, 1, 17, 0, 0, 0, 0), (17, .iload_n 1, 1, 18, 0, 0, 0, 0), (18, .iload_n 2, 1, 19, 0, 0, 0, 0), (19, .invokevirtual 84, 3, 22, 1, 139, 3, 10), (22, .goto 4, 3, 25, 26, 0, 0, 0), (25, .iconst (-1), 1, 26, 0, 0, 0, 0), (26, .ireturn, 1, 27, 0, 0, 0, 0)])
def k_X10_best : MM := ((some .int), [(0, .iload_n 1, 1, 1, 0, 0, 0, 0), (1, .i2l, 1, 2, 0, 0, 0, 0), (2, .lconst 0, 1, 3, 0, 0, 0, 0), (3, .ldc2_w 205, 3, 6, 0, 1, 2, 0), (6, .invokestatic 56, 3, 9, 0, 123, 3, 0), (9, .ifCond .ne 6, 3, 12, 15, 0, 0, 0), (12, .bipush (-2), 2, 14, 0, 0, 0, 0), (14, .ireturn, 1, 15, 0, 0, 0, 0), (15, .aload_n 0, 1, 16, 0, 0, 0, 0), (16, .invokevirtual 90, 3, 19, 1, 141, 1, 10), (19, .istore_n 2, 1, 20, 0, 0, 0, 0), (20, .iload_n 2, 1, 21, 0, 0, 0, 0), (21, .bipush (-6), 2, 23, 0, 0, 0, 0), (23, .if_icmp .ne 8, 3, 26, 31, 0, 0, 0), (26, .bipush (-6), 2, 28, 0, 0, 0, 0), (28, .goto 25, 3, 31, 53, 0, 0, 0), (31, .iload_n 1, 1, 32, 0, 0, 0, 0), (32, .iconst 2, 1, 33, 0, 0, 0, 0), (33, .if_icmp .ge 15, 3, 36, 48, 0, 0, 0), (36, .aload_n 0, 1, 37, 0, 0, 0, 0), (37, .bipush 26, 2, 39, 0, 0, 0, 0), (39, .iload_n 2, 1, 40, 0, 0, 0, 0), (40, .iload_n 1, 1, 41, 0, 0, 0, 0), (41, .iadd, 1, 42, 0, 0, 0, 0), (42, .invokevirtual 74, 3, 45, 1, 127, 3, 10), (45, .goto 8, 3, 48, 53, 0, 0, 0), (48, .aload_n 0, 1, 49, 0, 0, 0, 0), (49, .iload_n 2, 1, 50, 0, 0, 0, 0), (50, .invokevirtual 87, 3, 53, 1, 140, 2, 10), (53, .ireturn, 1, 54, 0, 0, 0, 0)])
def k_X10_ratio : MM := ((some .long), [(0, .aload_n 0, 1, 1, 0, 0, 0, 0), (1, .invokevirtual 179, 3, 4, 1, 134, 1, 10), (4, .istore_n 1, 1, 5, 0, 0, 0, 0), (5, .iload_n 1, 1, 6, 0, 0, 0, 0), (6, .ifCond .ne 7, 3, 9, 13, 0, 0, 0), (9, .lconst 0, 1, 10, 0, 0, 0, 0), (10, .goto 14, 3, 13, 24, 0, 0, 0), (13, .aload_n 0, 1, 14, 0, 0, 0, 0), (14, .invokevirtual 193, 3, 17, 1, 137, 1, 10), (17, .i2d, 1, 18, 0, 0, 0, 0), (18, .iload_n 1, 1, 19, 0, 0, 0, 0), (19, .i2d, 1, 20, 0, 0, 0, 0), (20, .ddiv, 1, 21, 0, 0, 0, 0), (21, .invokestatic 207, 3, 24, 0, 186, 1, 0), (24, .lreturn, 1, 25, 0, 0, 0, 0)])
def k_X10_share : MM := ((some .int), [(0, .iload_n 1, 1, 1, 0, 0, 0, 0), (1, .i2l, 1, 2, 0, 0, 0, 0), (2, .lconst 0, 1, 3, 0, 0, 0, 0), (3, .ldc2_w 182, 3, 6, 0, 1, 7, 0), (6, .invokestatic 56, 3, 9, 0, 123, 3, 0), (9, .ifCond .ne 5, 3, 12, 14, 0, 0, 0), (12, .iconst (-1), 1, 13, 0, 0, 0, 0), (13, .ireturn, 1, 14, 0, 0, 0, 0), (14, .aload_n 0, 1, 15, 0, 0, 0, 0), (15, .aload_n 0, 1, 16, 0, 0, 0, 0), (16, .getfield 7, 3, 19, 0, 10, 0, 0), (19, .iconst 0, 1, 20, 0, 0, 0, 0), (20, .aload_n 0, 1, 21, 0, 0, 0, 0), (21, .getfield 34, 3, 24, 0, 10, 9, 0), (24, .invokevirtual 213, 3, 27, 1, 138, 4, 10), (27, .istore_n 2, 1, 28, 0, 0, 0, 0), (28, .iconst 0, 1, 29, 0, 0, 0, 0), (29, .istore_n 3, 1, 30, 0, 0, 0, 0), (30, .iconst 0, 1, 31, 0, 0, 0, 0), (31, .istore 4, 2, 33, 0, 0, 0, 0), (33, .iload 4, 2, 35, 0, 0, 0, 0), (35, .iload_n 2, 1, 36, 0, 0, 0, 0), (36, .if_icmp .ge 28, 3, 39, 64, 0, 0, 0), (39, .iload_n 3, 1, 40, 0, 0, 0, 0), (40, .aload_n 0, 1, 41, 0, 0, 0, 0), (41, .getfield 34, 3, 44, 0, 10, 9, 0), (44, .iload 4, 2, 46, 0, 0, 0, 0), (46, .iaload, 1, 47, 0, 0, 0, 0), (47, .iload_n 1, 1, 48, 0, 0, 0, 0), (48, .if_icmp .ne 7, 3, 51, 55, 0, 0, 0), (51, .iconst 1, 1, 52, 0, 0, 0, 0), (52, .goto 4, 3, 55, 56, 0, 0, 0), (55, .iconst 0, 1, 56, 0, 0, 0, 0), (56, .iadd, 1, 57, 0, 0, 0, 0), (57, .istore_n 3, 1, 58, 0, 0, 0, 0), (58, .iinc 4 1, 3, 61, 0, 0, 0, 0), (61, .goto (-28), 3, 64, 33, 0, 0, 0), (64, .iload_n 2, 1, 65, 0, 0, 0, 0), (65, .ifCond .ne 7, 3, 68, 72, 0, 0, 0), (68, .iconst 0, 1, 69, 0, 0, 0, 0), (69, .goto 11, 3, 72, 80, 0, 0, 0), (72, .iload_n 3, 1, 73, 0, 0, 0, 0), (73, .i2f, 1, 74, 0, 0, 0, 0), (74, .iload_n 2, 1, 75, 0, 0, 0, 0), (75, .i2f, 1, 76, 0, 0, 0, 0), (76, .fdiv, 1, 77, 0, 0, 0, 0), (77, .invokestatic 217, 3, 80, 0, 188, 1, 0), (80, .ireturn, 1, 81, 0, 0, 0, 0)])
def k_X10_mark : MM := ((some .int), [(0, .aload_n 0, 1, 1, 0, 0, 0, 0), (1, .aload_n 0, 1, 2, 0, 0, 0, 0), (2, .getfield 7, 3, 5, 0, 10, 0, 0), (5, .iconst 0, 1, 6, 0, 0, 0, 0), (6, .aload_n 0, 1, 7, 0, 0, 0, 0), (7, .getfield 34, 3, 10, 0, 10, 9, 0), (10, .invokevirtual 213, 3, 13, 1, 138, 4, 10), (13, .istore_n 1, 1, 14, 0, 0, 0, 0), (14, .bipush 7, 2, 16, 0, 0, 0, 0), (16, .istore_n 2, 1, 17, 0, 0, 0, 0), (17, .iconst 0, 1, 18, 0, 0, 0, 0), (18, .istore_n 3, 1, 19, 0, 0, 0, 0), (19, .iload_n 3, 1, 20, 0, 0, 0, 0), (20, .iload_n 1, 1, 21, 0, 0, 0, 0), (21, .if_icmp .ge 23, 3, 24, 44, 0, 0, 0), (24, .bipush 31, 2, 26, 0, 0, 0, 0), (26, .iload_n 2, 1, 27, 0, 0, 0, 0), (27, .imul, 1, 28, 0, 0, 0, 0), (28, .aload_n 0, 1, 29, 0, 0, 0, 0), (29, .getfield 34, 3, 32, 0, 10, 9, 0), (32, .iload_n 3, 1, 33, 0, 0, 0, 0), (33, .iaload, 1, 34, 0, 0, 0, 0), (34, .iadd, 1, 35, 0, 0, 0, 0), (35, .iconst 1, 1, 36, 0, 0, 0, 0), (36, .iadd, 1, 37, 0, 0, 0, 0), (37, .istore_n 2, 1, 38, 0, 0, 0, 0), (38, .iinc 3 1, 3, 41, 0, 0, 0, 0), (41, .goto (-22), 3, 44, 19, 0, 0, 0), (44, .iload_n 2, 1, 45, 0, 0, 0, 0), (45, .ireturn, 1, 46, 0, 0, 0, 0)])
def k_X10_couldBe : MM := ((some .int), [(0, .aload_n 0, 1, 1, 0, 0, 0, 0), (1, .getfield 7, 3, 4, 0, 10, 0, 0), (4, .aload_n 0, 1, 5, 0, 0, 0, 0), (5, .getfield 16, 3, 8, 0, 10, 2, 0), (8, .invokestatic 126, 3, 11, 0, 124, 2, 0), (11, .iconst 1, 1, 12, 0, 0, 0, 0), (12, .istore_n 1, 1, 13, 0, 0, 0, 0), (13, .iload_n 1, 1, 14, 0, 0, 0, 0), (14, .ifCond .eq 11, 3, 17, 25, 0, 0, 0), (17, .aload_n 0, 1, 18, 0, 0, 0, 0), (18, .invokevirtual 169, 3, 21, 1, 142, 1, 10), (21, .istore_n 1, 1, 22, 0, 0, 0, 0), (22, .goto (-9), 3, 25, 13, 0, 0, 0), (25, .aload_n 0, 1, 26, 0, 0, 0, 0), (26, .invokevirtual 176, 3, 29, 1, 148, 1, 10), (29, .istore_n 2, 1, 30, 0, 0, 0, 0), (30, .aload_n 0, 1, 31, 0, 0, 0, 0), (31, .invokevirtual 193, 3, 34, 1, 137, 1, 10), (34, .istore_n 3, 1, 35, 0, 0, 0, 0), (35, .aload_n 0, 1, 36, 0, 0, 0, 0), (36, .getfield 16, 3, 39, 0, 10, 2, 0), (39, .aload_n 0, 1, 40, 0, 0, 0, 0), (40, .getfield 7, 3, 43, 0, 10, 0, 0), (43, .invokestatic 126, 3, 46, 0, 124, 2, 0), (46, .iload_n 3, 1, 47, 0, 0, 0, 0), (47, .ireturn, 1, 48, 0, 0, 0, 0)])
def k_X10_unlike : MM := ((some .int), [(0, .iload_n 1, 1, 1, 0, 0, 0, 0), (1, .i2l, 1, 2, 0, 0, 0, 0), (2, .lconst 0, 1, 3, 0, 0, 0, 0), (3, .lconst 1, 1, 4, 0, 0, 0, 0), (4, .invokestatic 56, 3, 7, 0, 123, 3, 0), (7, .ifCond .ne 6, 3, 10, 13, 0, 0, 0), (10, .bipush (-2), 2, 12, 0, 0, 0, 0), (12, .ireturn, 1, 13, 0, 0, 0, 0), (13, .aload_n 0, 1, 14, 0, 0, 0, 0), (14, .getfield 25, 3, 17, 0, 10, 6, 0), (17, .iload_n 1, 1, 18, 0, 0, 0, 0), (18, .iaload, 1, 19, 0, 0, 0, 0), (19, .ifCond .ne 6, 3, 22, 25, 0, 0, 0), (22, .bipush (-5), 2, 24, 0, 0, 0, 0), (24, .ireturn, 1, 25, 0, 0, 0, 0), (25, .aload_n 0, 1, 26, 0, 0, 0, 0), (26, .aload_n 0, 1, 27, 0, 0, 0, 0), (27, .getfield 7, 3, 30, 0, 10, 0, 0), (30, .iconst 0, 1, 31, 0, 0, 0, 0), (31, .aload_n 0, 1, 32, 0, 0, 0, 0), (32, .getfield 34, 3, 35, 0, 10, 9, 0), (35, .invokevirtual 213, 3, 38, 1, 138, 4, 10), (38, .istore_n 2, 1, 39, 0, 0, 0, 0), (39, .aload_n 0, 1, 40, 0, 0, 0, 0), (40, .aload_n 0, 1, 41, 0, 0, 0, 0), (41, .getfield 22, 3, 44, 0, 10, 5, 0), (44, .sipush 2188, 3, 47, 0, 0, 0, 0), (47, .iload_n 1, 1, 48, 0, 0, 0, 0), (48, .imul, 1, 49, 0, 0, 0, 0), (49, .aload_n 0, 1, 50, 0, 0, 0, 0), (50, .getfield 37, 3, 53, 0, 10, 10, 0), (53, .invokevirtual 213, 3, 56, 1, 138, 4, 10), (56, .istore_n 3, 1, 57, 0, 0, 0, 0), (57, .iconst 0, 1, 58, 0, 0, 0, 0), (58, .istore 4, 2, 60, 0, 0, 0, 0), (60, .iload 4, 2, 62, 0, 0, 0, 0), (62, .iload_n 2, 1, 63, 0, 0, 0, 0), (63, .if_icmp .ge 32, 3, 66, 95, 0, 0, 0), (66, .iload 4, 2, 68, 0, 0, 0, 0), (68, .iload_n 3, 1, 69, 0, 0, 0, 0), (69, .if_icmp .ge 26, 3, 72, 95, 0, 0, 0), (72, .aload_n 0, 1, 73, 0, 0, 0, 0), (73, .getfield 34, 3, 76, 0, 10, 9, 0), (76, .iload 4, 2, 78, 0, 0, 0, 0), (78, .iaload, 1, 79, 0, 0, 0, 0), (79, .aload_n 0, 1, 80, 0, 0, 0, 0), (80, .getfield 37, 3, 83, 0, 10, 10, 0), (83, .iload 4, 2, 85, 0, 0, 0, 0), (85, .iaload, 1, 86, 0, 0, 0, 0), (86, .if_icmp .ne 9, 3, 89, 95, 0, 0, 0), (89, .iinc 4 1, 3, 92, 0, 0, 0, 0), (92, .goto (-32), 3, 95, 60, 0, 0, 0), (95, .iload 4, 2, 97, 0, 0, 0, 0), (97, .iload_n 2, 1, 98, 0, 0, 0, 0), (98, .if_icmp .ne 14, 3, 101, 112, 0, 0, 0), (101, .iload 4, 2, 103, 0, 0, 0, 0), (103, .iload_n 3, 1, 104, 0, 0, 0, 0), (104, .if_icmp .ne 8, 3, 107, 112, 0, 0, 0), (107, .bipush (-6), 2, 109, 0, 0, 0, 0), (109, .goto 5, 3, 112, 114, 0, 0, 0), (112, .iload 4, 2, 114, 0, 0, 0, 0), (114, .ireturn, 1, 115, 0, 0, 0, 0)])
def k_X10_opens : MM := ((some .int), [(0, .iload_n 1, 1, 1, 0, 0, 0, 0), (1, .i2l, 1, 2, 0, 0, 0, 0), (2, .lconst 0, 1, 3, 0, 0, 0, 0), (3, .aload_n 0, 1, 4, 0, 0, 0, 0), (4, .invokevirtual 179, 3, 7, 1, 134, 1, 10), (7, .i2l, 1, 8, 0, 0, 0, 0), (8, .lconst 1, 1, 9, 0, 0, 0, 0), (9, .lsub, 1, 10, 0, 0, 0, 0), (10, .invokestatic 56, 3, 13, 0, 123, 3, 0), (13, .ifCond .ne 5, 3, 16, 18, 0, 0, 0), (16, .iconst (-1), 1, 17, 0, 0, 0, 0), (17, .ireturn, 1, 18, 0, 0, 0, 0), (18, .bipush 26, 2, 20, 0, 0, 0, 0), (20, .istore_n 2, 1, 21, 0, 0, 0, 0), (21, .iload_n 1, 1, 22, 0, 0, 0, 0), (22, .istore_n 3, 1, 23, 0, 0, 0, 0), (23, .bipush 8, 2, 25, 0, 0, 0, 0), (25, .istore 4, 2, 27, 0, 0, 0, 0), (27, .iconst (-1), 1, 28, 0, 0, 0, 0), (28, .istore 5, 2, 30, 0, 0, 0, 0), (30, .iload 4, 2, 32, 0, 0, 0, 0), (32, .invokestatic 60, 3, 35, 0, 130, 1, 0), (35, .ifCond .ne 62, 3, 38, 97, 0, 0, 0), (38, .iconst 0, 1, 39, 0, 0, 0, 0), (39, .istore 6, 2, 41, 0, 0, 0, 0), (41, .iload_n 3, 1, 42, 0, 0, 0, 0), (42, .aload_n 0, 1, 43, 0, 0, 0, 0), (43, .aload_n 0, 1, 44, 0, 0, 0, 0), (44, .iload_n 2, 1, 45, 0, 0, 0, 0), (45, .iload 6, 2, 47, 0, 0, 0, 0), (47, .invokevirtual 74, 3, 50, 1, 127, 3, 10), (50, .invokevirtual 78, 3, 53, 1, 132, 2, 10), (53, .if_icmp .lt 23, 3, 56, 76, 0, 0, 0), (56, .iload_n 3, 1, 57, 0, 0, 0, 0), (57, .aload_n 0, 1, 58, 0, 0, 0, 0), (58, .aload_n 0, 1, 59, 0, 0, 0, 0), (59, .iload_n 2, 1, 60, 0, 0, 0, 0), (60, .iload 6, 2, 62, 0, 0, 0, 0), (62, .invokevirtual 74, 3, 65, 1, 127, 3, 10), (65, .invokevirtual 78, 3, 68, 1, 132, 2, 10), (68, .isub, 1, 69, 0, 0, 0, 0), (69, .istore_n 3, 1, 70, 0, 0, 0, 0), (70, .iinc 6 1, 3, 73, 0, 0, 0, 0), (73, .goto (-32), 3, 76, 41, 0, 0, 0), (76, .aload_n 0, 1, 77, 0, 0, 0, 0), (77, .iload_n 2, 1, 78, 0, 0, 0, 0), (78, .iload 6, 2, 80, 0, 0, 0, 0), (80, .invokevirtual 74, 3, 83, 1, 127, 3, 10), (83, .istore 4, 2, 85, 0, 0, 0, 0), (85, .iload 4, 2, 87, 0, 0, 0, 0), (87, .invokestatic 64, 3, 90, 0, 129, 1, 0), (90, .istore_n 2, 1, 91, 0, 0, 0, 0), (91, .iinc 5 1, 3, 94, 0, 0, 0, 0), (94, .goto (-64), 3, 97, 30, 0, 0, 0), (97, .iload 5, 2, 99, 0, 0, 0, 0), (99, .ireturn, 1, 100, 0, 0, 0, 0)])
def k_X10_undo : MM := ((some .int), [(0, .aload_n 0, 1, 1, 0, 0, 0, 0), (1, .getfield 52, 3, 4, 0, 10, 4, 0), (4, .ifCond .ne 6, 3, 7, 10, 0, 0, 0), (7, .bipush (-5), 2, 9, 0, 0, 0, 0), (9, .ireturn, 1, 10, 0, 0, 0, 0), (10, .aload_n 0, 1, 11, 0, 0, 0, 0), (11, .dup, 1, 12, 0, 0, 0, 0), (12, .getfield 52, 3, 15, 0, 10, 4, 0), (15, .iconst 1, 1, 16, 0, 0, 0, 0), (16, .isub, 1, 17, 0, 0, 0, 0), (17, .putfield 52, 3, 20, 0, 10, 4, 0), (20, .iconst 0, 1, 21, 0, 0, 0, 0), (21, .istore_n 1, 1, 22, 0, 0, 0, 0), (22, .iload_n 1, 1, 23, 0, 0, 0, 0), (23, .sipush 2188, 3, 26, 0, 0, 0, 0), (26, .if_icmp .ge 30, 3, 29, 56, 0, 0, 0), (29, .aload_n 0, 1, 30, 0, 0, 0, 0), (30, .getfield 7, 3, 33, 0, 10, 0, 0), (33, .iload_n 1, 1, 34, 0, 0, 0, 0), (34, .aload_n 0, 1, 35, 0, 0, 0, 0), (35, .getfield 19, 3, 38, 0, 10, 3, 0), (38, .sipush 2188, 3, 41, 0, 0, 0, 0), (41, .aload_n 0, 1, 42, 0, 0, 0, 0), (42, .getfield 52, 3, 45, 0, 10, 4, 0), (45, .imul, 1, 46, 0, 0, 0, 0), (46, .iload_n 1, 1, 47, 0, 0, 0, 0), (47, .iadd, 1, 48, 0, 0, 0, 0), (48, .iaload, 1, 49, 0, 0, 0, 0), (49, .iastore, 1, 50, 0, 0, 0, 0), (50, .iinc 1 1, 3, 53, 0, 0, 0, 0), (53, .goto (-31), 3, 56, 22, 0, 0, 0), (56, .aload_n 0, 1, 57, 0, 0, 0, 0), (57, .getfield 52, 3, 60, 0, 10, 4, 0), (60, .ireturn, 1, 61, 0, 0, 0, 0)])
def k_X10_save : MM := ((some .int), [(0, .iload_n 1, 1, 1, 0, 0, 0, 0), (1, .i2l, 1, 2, 0, 0, 0, 0), (2, .lconst 0, 1, 3, 0, 0, 0, 0), (3, .lconst 1, 1, 4, 0, 0, 0, 0), (4, .invokestatic 56, 3, 7, 0, 123, 3, 0), (7, .ifCond .ne 6, 3, 10, 13, 0, 0, 0), (10, .bipush (-2), 2, 12, 0, 0, 0, 0), (12, .ireturn, 1, 13, 0, 0, 0, 0), (13, .iconst 0, 1, 14, 0, 0, 0, 0), (14, .istore_n 2, 1, 15, 0, 0, 0, 0), (15, .iload_n 2, 1, 16, 0, 0, 0, 0), (16, .sipush 2188, 3, 19, 0, 0, 0, 0), (19, .if_icmp .ge 27, 3, 22, 46, 0, 0, 0), (22, .aload_n 0, 1, 23, 0, 0, 0, 0), (23, .getfield 22, 3, 26, 0, 10, 5, 0), (26, .sipush 2188, 3, 29, 0, 0, 0, 0), (29, .iload_n 1, 1, 30, 0, 0, 0, 0), (30, .imul, 1, 31, 0, 0, 0, 0), (31, .iload_n 2, 1, 32, 0, 0, 0, 0), (32, .iadd, 1, 33, 0, 0, 0, 0), (33, .aload_n 0, 1, 34, 0, 0, 0, 0), (34, .getfield 7, 3, 37, 0, 10, 0, 0), (37, .iload_n 2, 1, 38, 0, 0, 0, 0), (38, .iaload, 1, 39, 0, 0, 0, 0), (39, .iastore, 1, 40, 0, 0, 0, 0), (40, .iinc 2 1, 3, 43, 0, 0, 0, 0), (43, .goto (-28), 3, 46, 15, 0, 0, 0), (46, .aload_n 0, 1, 47, 0, 0, 0, 0), (47, .getfield 25, 3, 50, 0, 10, 6, 0), (50, .iload_n 1, 1, 51, 0, 0, 0, 0), (51, .iconst 1, 1, 52, 0, 0, 0, 0), (52, .iastore, 1, 53, 0, 0, 0, 0), (53, .aload_n 0, 1, 54, 0, 0, 0, 0), (54, .getfield 7, 3, 57, 0, 10, 0, 0), (57, .sipush 2187, 3, 60, 0, 0, 0, 0), (60, .iaload, 1, 61, 0, 0, 0, 0), (61, .ireturn, 1, 62, 0, 0, 0, 0)])
def k_X10_restore : MM := ((some .int), [(0, .iload_n 1, 1, 1, 0, 0, 0, 0), (1, .i2l, 1, 2, 0, 0, 0, 0), (2, .lconst 0, 1, 3, 0, 0, 0, 0), (3, .lconst 1, 1, 4, 0, 0, 0, 0), (4, .invokestatic 56, 3, 7, 0, 123, 3, 0), (7, .ifCond .ne 6, 3, 10, 13, 0, 0, 0), (10, .bipush (-2), 2, 12, 0, 0, 0, 0), (12, .ireturn, 1, 13, 0, 0, 0, 0), (13, .aload_n 0, 1, 14, 0, 0, 0, 0), (14, .getfield 25, 3, 17, 0, 10, 6, 0), (17, .iload_n 1, 1, 18, 0, 0, 0, 0), (18, .iaload, 1, 19, 0, 0, 0, 0), (19, .ifCond .ne 6, 3, 22, 25, 0, 0, 0), (22, .bipush (-5), 2, 24, 0, 0, 0, 0), (24, .ireturn, 1, 25, 0, 0, 0, 0), (25, .aload_n 0, 1, 26, 0, 0, 0, 0), (26, .getfield 7, 3, 29, 0, 10, 0, 0), (29, .aload_n 0, 1, 30, 0, 0, 0, 0), (30, .getfield 13, 3, 33, 0, 10, 1, 0), (33, .invokestatic 126, 3, 36, 0, 124, 2, 0), (36, .iconst 0, 1, 37, 0, 0, 0, 0), (37, .istore_n 2, 1, 38, 0, 0, 0, 0), (38, .iload_n 2, 1, 39, 0, 0, 0, 0), (39, .sipush 2188, 3, 42, 0, 0, 0, 0), (42, .if_icmp .ge 27, 3, 45, 69, 0, 0, 0), (45, .aload_n 0, 1, 46, 0, 0, 0, 0), (46, .getfield 7, 3, 49, 0, 10, 0, 0), (49, .iload_n 2, 1, 50, 0, 0, 0, 0), (50, .aload_n 0, 1, 51, 0, 0, 0, 0), (51, .getfield 22, 3, 54, 0, 10, 5, 0), (54, .sipush 2188, 3, 57, 0, 0, 0, 0), (57, .iload_n 1, 1, 58, 0, 0, 0, 0), (58, .imul, 1, 59, 0, 0, 0, 0), (59, .iload_n 2, 1, 60, 0, 0, 0, 0), (60, .iadd, 1, 61, 0, 0, 0, 0), (61, .iaload, 1, 62, 0, 0, 0, 0), (62, .iastore, 1, 63, 0, 0, 0, 0), (63, .iinc 2 1, 3, 66, 0, 0, 0, 0), (66, .goto (-28), 3, 69, 38, 0, 0, 0), (69, .aload_n 0, 1, 70, 0, 0, 0, 0), (70, .aload_n 0, 1, 71, 0, 0, 0, 0), (71, .getfield 7, 3, 74, 0, 10, 0, 0), (74, .sipush 2187, 3, 77, 0, 0, 0, 0), (77, .iaload, 1, 78, 0, 0, 0, 0), (78, .invokevirtual 164, 3, 81, 1, 125, 2, 10), (81, .ireturn, 1, 82, 0, 0, 0, 0)])
def k_Jxe99ae_isNaN_b9ae7 : MM := ((some .boolean), [(0, .dload_n 0, 1, 1, 0, 0, 0, 0), (1, .dload_n 0, 1, 2, 0, 0, 0, 0), (2, .dcmp .l, 1, 3, 0, 0, 0, 0), (3, .ifCond .eq 7, 3, 6, 10, 0, 0, 0), (6, .iconst 1, 1, 7, 0, 0, 0, 0), (7, .goto 4, 3, 10, 11, 0, 0, 0), (10, .iconst 0, 1, 11, 0, 0, 0, 0), (11, .ireturn, 1, 12, 0, 0, 0, 0)])
def k_Jxe99ae_doubleToLongBits_ccdee : MM := ((some .long), [(0, .dload_n 0, 1, 1, 0, 0, 0, 0), (1, .invokestatic 122, 3, 4, 0, 185, 1, 0), (4, .ifCond .ne 8, 3, 7, 12, 0, 0, 0), (7, .dload_n 0, 1, 8, 0, 0, 0, 0), (8, .invokestatic 134, 3, 11, 6, 0, 0, 0), (11, .lreturn, 1, 12, 0, 0, 0, 0), (12, .ldc2_w 137, 3, 15, 0, 1, 9221120237041090560, 0), (15, .lreturn, 1, 16, 0, 0, 0, 0)])
def k_Jxf58ca_isNaN_12338 : MM := ((some .boolean), [(0, .fload_n 0, 1, 1, 0, 0, 0, 0), (1, .fload_n 0, 1, 2, 0, 0, 0, 0), (2, .fcmp .l, 1, 3, 0, 0, 0, 0), (3, .ifCond .eq 7, 3, 6, 10, 0, 0, 0), (6, .iconst 1, 1, 7, 0, 0, 0, 0), (7, .goto 4, 3, 10, 11, 0, 0, 0), (10, .iconst 0, 1, 11, 0, 0, 0, 0), (11, .ireturn, 1, 12, 0, 0, 0, 0)])
def k_Jxf58ca_floatToIntBits_5c35a : MM := ((some .int), [(0, .fload_n 0, 1, 1, 0, 0, 0, 0), (1, .invokestatic 59, 3, 4, 0, 187, 1, 0), (4, .ifCond .ne 8, 3, 7, 12, 0, 0, 0), (7, .fload_n 0, 1, 8, 0, 0, 0, 0), (8, .invokestatic 74, 3, 11, 7, 0, 0, 0), (11, .ireturn, 1, 12, 0, 0, 0, 0), (12, .ldc 77, 2, 14, 0, 3, 2143289344, 0), (14, .ireturn, 1, 15, 0, 0, 0, 0)])
def k_J9_max_7cf53 : MM := ((some .int), [(0, .iload_n 0, 1, 1, 0, 0, 0, 0), (1, .iload_n 1, 1, 2, 0, 0, 0, 0), (2, .if_icmp .lt 7, 3, 5, 9, 0, 0, 0), (5, .iload_n 0, 1, 6, 0, 0, 0, 0), (6, .goto 4, 3, 9, 10, 0, 0, 0), (9, .iload_n 1, 1, 10, 0, 0, 0, 0), (10, .ireturn, 1, 11, 0, 0, 0, 0)])
def k_J9_min_7cf53 : MM := ((some .int), [(0, .iload_n 0, 1, 1, 0, 0, 0, 0), (1, .iload_n 1, 1, 2, 0, 0, 0, 0), (2, .if_icmp .gt 7, 3, 5, 9, 0, 0, 0), (5, .iload_n 0, 1, 6, 0, 0, 0, 0), (6, .goto 4, 3, 9, 10, 0, 0, 0), (9, .iload_n 1, 1, 10, 0, 0, 0, 0), (10, .ireturn, 1, 11, 0, 0, 0, 0)])
def k_J7_fill_53178 : MM := (none, [(0, .iconst 0, 1, 1, 0, 0, 0, 0), (1, .istore_n 2, 1, 2, 0, 0, 0, 0), (2, .aload_n 0, 1, 3, 0, 0, 0, 0), (3, .arraylength, 1, 4, 0, 0, 0, 0), (4, .istore_n 3, 1, 5, 0, 0, 0, 0), (5, .iload_n 2, 1, 6, 0, 0, 0, 0), (6, .iload_n 3, 1, 7, 0, 0, 0, 0), (7, .if_icmp .ge 13, 3, 10, 20, 0, 0, 0), (10, .aload_n 0, 1, 11, 0, 0, 0, 0), (11, .iload_n 2, 1, 12, 0, 0, 0, 0), (12, .iload_n 1, 1, 13, 0, 0, 0, 0), (13, .iastore, 1, 14, 0, 0, 0, 0), (14, .iinc 2 1, 3, 17, 0, 0, 0, 0), (17, .goto (-12), 3, 20, 5, 0, 0, 0), (20, .return_, 1, 21, 0, 0, 0, 0)])
def k_L_law : MM := ((some .boolean), [(0, .new 7, 3, 3, 0, 9, 0, 0), (3, .dup, 1, 4, 0, 0, 0, 0), (4, .invokespecial 9, 3, 7, 2, 90, 1, 0), (7, .astore_n 1, 1, 8, 0, 0, 0, 0), (8, .new 10, 3, 11, 0, 10, 0, 0), (11, .dup, 1, 12, 0, 0, 0, 0), (12, .invokespecial 12, 3, 15, 2, 122, 1, 0), (15, .astore_n 2, 1, 16, 0, 0, 0, 0), (16, .iconst 0, 1, 17, 0, 0, 0, 0), (17, .istore_n 3, 1, 18, 0, 0, 0, 0), (18, .iload_n 3, 1, 19, 0, 0, 0, 0), (19, .aload_n 0, 1, 20, 0, 0, 0, 0), (20, .arraylength, 1, 21, 0, 0, 0, 0), (21, .iconst 3, 1, 22, 0, 0, 0, 0), (22, .isub, 1, 23, 0, 0, 0, 0), (23, .if_icmp .gt 707, 3, 26, 730, 0, 0, 0), (26, .aload_n 0, 1, 27, 0, 0, 0, 0), (27, .iload_n 3, 1, 28, 0, 0, 0, 0), (28, .iaload, 1, 29, 0, 0, 0, 0), (29, .bipush 31, 2, 31, 0, 0, 0, 0), (31, .iand, 1, 32, 0, 0, 0, 0), (32, .tableswitch 692 0 24 #[116, 129, 152, 175, 188, 221, 254, 277, 300, 333, 366, 389, 422, 445, 459, 482, 495, 508, 531, 554, 607, 620, 633, 646, 669], 116, 148, 0, 0, 0, 0), (148, .aload_n 1, 1, 149, 0, 0, 0, 0), (149, .invokevirtual 13, 3, 152, 1, 91, 1, 9), (152, .aload_n 2, 1, 153, 0, 0, 0, 0), (153, .invokevirtual 17, 3, 156, 1, 159, 1, 10), (156, .if_icmp .eq 568, 3, 159, 724, 0, 0, 0), (159, .iconst 0, 1, 160, 0, 0, 0, 0), (160, .ireturn, 1, 161, 0, 0, 0, 0), (161, .aload_n 1, 1, 162, 0, 0, 0, 0), (162, .aload_n 0, 1, 163, 0, 0, 0, 0), (163, .iload_n 3, 1, 164, 0, 0, 0, 0), (164, .iconst 1, 1, 165, 0, 0, 0, 0), (165, .iadd, 1, 166, 0, 0, 0, 0), (166, .iaload, 1, 167, 0, 0, 0, 0), (167, .invokevirtual 18, 3, 170, 1, 92, 2, 9), (170, .aload_n 2, 1, 171, 0, 0, 0, 0), (171, .aload_n 0, 1, 172, 0, 0, 0, 0), (172, .iload_n 3, 1, 173, 0, 0, 0, 0), (173, .iconst 1, 1, 174, 0, 0, 0, 0), (174, .iadd, 1, 175, 0, 0, 0, 0), (175, .iaload, 1, 176, 0, 0, 0, 0), (176, .invokevirtual 22, 3, 179, 1, 160, 2, 10), (179, .if_icmp .eq 545, 3, 182, 724, 0, 0, 0), (182, .iconst 0, 1, 183, 0, 0, 0, 0), (183, .ireturn, 1, 184, 0, 0, 0, 0), (184, .aload_n 1, 1, 185, 0, 0, 0, 0), (185, .aload_n 0, 1, 186, 0, 0, 0, 0), (186, .iload_n 3, 1, 187, 0, 0, 0, 0), (187, .iconst 1, 1, 188, 0, 0, 0, 0), (188, .iadd, 1, 189, 0, 0, 0, 0), (189, .iaload, 1, 190, 0, 0, 0, 0), (190, .invokevirtual 23, 3, 193, 1, 93, 2, 9), (193, .aload_n 2, 1, 194, 0, 0, 0, 0), (194, .aload_n 0, 1, 195, 0, 0, 0, 0), (195, .iload_n 3, 1, 196, 0, 0, 0, 0), (196, .iconst 1, 1, 197, 0, 0, 0, 0), (197, .iadd, 1, 198, 0, 0, 0, 0), (198, .iaload, 1, 199, 0, 0, 0, 0), (199, .invokevirtual 26, 3, 202, 1, 161, 2, 10), (202, .if_icmp .eq 522, 3, 205, 724, 0, 0, 0), (205, .iconst 0, 1, 206, 0, 0, 0, 0), (206, .ireturn, 1, 207, 0, 0, 0, 0), (207, .aload_n 1, 1, 208, 0, 0, 0, 0), (208, .invokevirtual 27, 3, 211, 1, 94, 1, 9), (211, .aload_n 2, 1, 212, 0, 0, 0, 0), (212, .invokevirtual 30, 3, 215, 1, 162, 1, 10), (215, .if_icmp .eq 509, 3, 218, 724, 0, 0, 0), (218, .iconst 0, 1, 219, 0, 0, 0, 0), (219, .ireturn, 1, 220, 0, 0, 0, 0), (220, .aload_n 1, 1, 221, 0, 0, 0, 0), (221, .aload_n 0, 1, 222, 0, 0, 0, 0), (222, .iload_n 3, 1, 223, 0, 0, 0, 0), (223, .iconst 1, 1, 224, 0, 0, 0, 0), (224, .iadd, 1, 225, 0, 0, 0, 0), (225, .iaload, 1, 226, 0, 0, 0, 0), (226, .aload_n 0, 1, 227, 0, 0, 0, 0), (227, .iload_n 3, 1, 228, 0, 0, 0, 0), (228, .iconst 2, 1, 229, 0, 0, 0, 0), (229, .iadd, 1, 230, 0, 0, 0, 0), (230, .iaload, 1, 231, 0, 0, 0, 0), (231, .invokevirtual 31, 3, 234, 1, 95, 3, 9), (234, .aload_n 2, 1, 235, 0, 0, 0, 0), (235, .aload_n 0, 1, 236, 0, 0, 0, 0), (236, .iload_n 3, 1, 237, 0, 0, 0, 0), (237, .iconst 1, 1, 238, 0, 0, 0, 0), (238, .iadd, 1, 239, 0, 0, 0, 0), (239, .iaload, 1, 240, 0, 0, 0, 0), (240, .aload_n 0, 1, 241, 0, 0, 0, 0), (241, .iload_n 3, 1, 242, 0, 0, 0, 0), (242, .iconst 2, 1, 243, 0, 0, 0, 0), (243, .iadd, 1, 244, 0, 0, 0, 0), (244, .iaload, 1, 245, 0, 0, 0, 0), (245, .invokevirtual 35, 3, 248, 1, 163, 3, 10), (248, .if_icmp .eq 476, 3, 251, 724, 0, 0, 0), (251, .iconst 0, 1, 252, 0, 0, 0, 0), (252, .ireturn, 1, 253, 0, 0, 0, 0), (253, .aload_n 1, 1, 254, 0, 0, 0, 0), (254, .aload_n 0, 1, 255, 0, 0, 0, 0), (255, .iload_n 3, 1, 256, 0, 0, 0, 0), (256, .iconst 1, 1, 257, 0, 0, 0, 0), (257, .iadd, 1, 258, 0, 0, 0, 0), (258, .iaload, 1, 259, 0, 0, 0, 0), (259, .aload_n 0, 1, 260, 0, 0, 0, 0), (260, .iload_n 3, 1, 261, 0, 0, 0, 0), (261, .iconst 2, 1, 262, 0, 0, 0, 0), (262, .iadd, 1, 263, 0, 0, 0, 0), (263, .iaload, 1, 264, 0, 0, 0, 0), (264, .invokevirtual 36, 3, 267, 1, 96, 3, 9), (267, .aload_n 2, 1, 268, 0, 0, 0, 0), (268, .aload_n 0, 1, 269, 0, 0, 0, 0), (269, .iload_n 3, 1, 270, 0, 0, 0, 0), (270, .iconst 1, 1, 271, 0, 0, 0, 0), (271, .iadd, 1, 272, 0, 0, 0, 0), (272, .iaload, 1, 273, 0, 0, 0, 0), (273, .aload_n 0, 1, 274, 0, 0, 0, 0), (274, .iload_n 3, 1, 275, 0, 0, 0, 0), (275, .iconst 2, 1, 276, 0, 0, 0, 0), (276, .iadd, 1, 277, 0, 0, 0, 0), (277, .iaload, 1, 278, 0, 0, 0, 0), (278, .invokevirtual 39, 3, 281, 1, 165, 3, 10), (281, .if_icmp .eq 443, 3, 284, 724, 0, 0, 0), (284, .iconst 0, 1, 285, 0, 0, 0, 0), (285, .ireturn, 1, 286, 0, 0, 0, 0), (286, .aload_n 1, 1, 287, 0, 0, 0, 0), (287, .aload_n 0, 1, 288, 0, 0, 0, 0), (288, .iload_n 3, 1, 289, 0, 0, 0, 0), (289, .iconst 1, 1, 290, 0, 0, 0, 0), (290, .iadd, 1, 291, 0, 0, 0, 0), (291, .iaload, 1, 292, 0, 0, 0, 0), (292, .invokevirtual 40, 3, 295, 1, 97, 2, 9), (295, .aload_n 2, 1, 296, 0, 0, 0, 0), (296, .aload_n 0, 1, 297, 0, 0, 0, 0), (297, .iload_n 3, 1, 298, 0, 0, 0, 0), (298, .iconst 1, 1, 299, 0, 0, 0, 0), (299, .iadd, 1, 300, 0, 0, 0, 0), (300, .iaload, 1, 301, 0, 0, 0, 0), (301, .invokevirtual 43, 3, 304, 1, 166, 2, 10), (304, .if_icmp .eq 420, 3, 307, 724, 0, 0, 0), (307, .iconst 0, 1, 308, 0, 0, 0, 0), (308, .ireturn, 1, 309, 0, 0, 0, 0), (309, .aload_n 1, 1, 310, 0, 0, 0, 0), (310, .aload_n 0, 1, 311, 0, 0, 0, 0), (311, .iload_n 3, 1, 312, 0, 0, 0, 0), (312, .iconst 1, 1, 313, 0, 0, 0, 0), (313, .iadd, 1, 314, 0, 0, 0, 0), (314, .iaload, 1, 315, 0, 0, 0, 0), (315, .invokevirtual 44, 3, 318, 1, 98, 2, 9), (318, .aload_n 2, 1, 319, 0, 0, 0, 0), (319, .aload_n 0, 1, 320, 0, 0, 0, 0), (320, .iload_n 3, 1, 321, 0, 0, 0, 0), (321, .iconst 1, 1, 322, 0, 0, 0, 0), (322, .iadd, 1, 323, 0, 0, 0, 0), (323, .iaload, 1, 324, 0, 0, 0, 0), (324, .invokevirtual 47, 3, 327, 1, 167, 2, 10), (327, .if_icmp .eq 397, 3, 330, 724, 0, 0, 0), (330, .iconst 0, 1, 331, 0, 0, 0, 0), (331, .ireturn, 1, 332, 0, 0, 0, 0), (332, .aload_n 1, 1, 333, 0, 0, 0, 0), (333, .aload_n 0, 1, 334, 0, 0, 0, 0), (334, .iload_n 3, 1, 335, 0, 0, 0, 0), (335, .iconst 1, 1, 336, 0, 0, 0, 0), (336, .iadd, 1, 337, 0, 0, 0, 0), (337, .iaload, 1, 338, 0, 0, 0, 0), (338, .aload_n 0, 1, 339, 0, 0, 0, 0), (339, .iload_n 3, 1, 340, 0, 0, 0, 0), (340, .iconst 2, 1, 341, 0, 0, 0, 0), (341, .iadd, 1, 342, 0, 0, 0, 0), (342, .iaload, 1, 343, 0, 0, 0, 0), (343, .invokevirtual 48, 3, 346, 1, 99, 3, 9), (346, .aload_n 2, 1, 347, 0, 0, 0, 0), (347, .aload_n 0, 1, 348, 0, 0, 0, 0), (348, .iload_n 3, 1, 349, 0, 0, 0, 0), (349, .iconst 1, 1, 350, 0, 0, 0, 0), (350, .iadd, 1, 351, 0, 0, 0, 0), (351, .iaload, 1, 352, 0, 0, 0, 0), (352, .aload_n 0, 1, 353, 0, 0, 0, 0), (353, .iload_n 3, 1, 354, 0, 0, 0, 0), (354, .iconst 2, 1, 355, 0, 0, 0, 0), (355, .iadd, 1, 356, 0, 0, 0, 0), (356, .iaload, 1, 357, 0, 0, 0, 0), (357, .invokevirtual 51, 3, 360, 1, 168, 3, 10), (360, .if_icmp .eq 364, 3, 363, 724, 0, 0, 0), (363, .iconst 0, 1, 364, 0, 0, 0, 0), (364, .ireturn, 1, 365, 0, 0, 0, 0), (365, .aload_n 1, 1, 366, 0, 0, 0, 0), (366, .aload_n 0, 1, 367, 0, 0, 0, 0), (367, .iload_n 3, 1, 368, 0, 0, 0, 0), (368, .iconst 1, 1, 369, 0, 0, 0, 0), (369, .iadd, 1, 370, 0, 0, 0, 0), (370, .iaload, 1, 371, 0, 0, 0, 0), (371, .aload_n 0, 1, 372, 0, 0, 0, 0), (372, .iload_n 3, 1, 373, 0, 0, 0, 0), (373, .iconst 2, 1, 374, 0, 0, 0, 0), (374, .iadd, 1, 375, 0, 0, 0, 0), (375, .iaload, 1, 376, 0, 0, 0, 0), (376, .invokevirtual 52, 3, 379, 1, 100, 3, 9), (379, .aload_n 2, 1, 380, 0, 0, 0, 0), (380, .aload_n 0, 1, 381, 0, 0, 0, 0), (381, .iload_n 3, 1, 382, 0, 0, 0, 0), (382, .iconst 1, 1, 383, 0, 0, 0, 0), (383, .iadd, 1, 384, 0, 0, 0, 0), (384, .iaload, 1, 385, 0, 0, 0, 0), (385, .aload_n 0, 1, 386, 0, 0, 0, 0), (386, .iload_n 3, 1, 387, 0, 0, 0, 0), (387, .iconst 2, 1, 388, 0, 0, 0, 0), (388, .iadd, 1, 389, 0, 0, 0, 0), (389, .iaload, 1, 390, 0, 0, 0, 0), (390, .invokevirtual 55, 3, 393, 1, 169, 3, 10), (393, .if_icmp .eq 331, 3, 396, 724, 0, 0, 0), (396, .iconst 0, 1, 397, 0, 0, 0, 0), (397, .ireturn, 1, 398, 0, 0, 0, 0), (398, .aload_n 1, 1, 399, 0, 0, 0, 0), (399, .aload_n 0, 1, 400, 0, 0, 0, 0), (400, .iload_n 3, 1, 401, 0, 0, 0, 0), (401, .iconst 1, 1, 402, 0, 0, 0, 0), (402, .iadd, 1, 403, 0, 0, 0, 0), (403, .iaload, 1, 404, 0, 0, 0, 0), (404, .invokevirtual 56, 3, 407, 1, 101, 2, 9), (407, .aload_n 2, 1, 408, 0, 0, 0, 0), (408, .aload_n 0, 1, 409, 0, 0, 0, 0), (409, .iload_n 3, 1, 410, 0, 0, 0, 0), (410, .iconst 1, 1, 411, 0, 0, 0, 0), (411, .iadd, 1, 412, 0, 0, 0, 0), (412, .iaload, 1, 413, 0, 0, 0, 0), (413, .invokevirtual 59, 3, 416, 1, 172, 2, 10), (416, .if_icmp .eq 308, 3, 419, 724, 0, 0, 0), (419, .iconst 0, 1, 420, 0, 0, 0, 0), (420, .ireturn, 1, 421, 0, 0, 0, 0), (421, .aload_n 1, 1, 422, 0, 0, 0, 0), (422, .aload_n 0, 1, 423, 0, 0, 0, 0), (423, .iload_n 3, 1, 424, 0, 0, 0, 0), (424, .iconst 1, 1, 425, 0, 0, 0, 0), (425, .iadd, 1, 426, 0, 0, 0, 0), (426, .iaload, 1, 427, 0, 0, 0, 0), (427, .aload_n 0, 1, 428, 0, 0, 0, 0), (428, .iload_n 3, 1, 429, 0, 0, 0, 0), (429, .iconst 2, 1, 430, 0, 0, 0, 0), (430, .iadd, 1, 431, 0, 0, 0, 0), (431, .iaload, 1, 432, 0, 0, 0, 0), (432, .invokevirtual 60, 3, 435, 1, 102, 3, 9), (435, .aload_n 2, 1, 436, 0, 0, 0, 0), (436, .aload_n 0, 1, 437, 0, 0, 0, 0), (437, .iload_n 3, 1, 438, 0, 0, 0, 0), (438, .iconst 1, 1, 439, 0, 0, 0, 0), (439, .iadd, 1, 440, 0, 0, 0, 0), (440, .iaload, 1, 441, 0, 0, 0, 0), (441, .aload_n 0, 1, 442, 0, 0, 0, 0), (442, .iload_n 3, 1, 443, 0, 0, 0, 0), (443, .iconst 2, 1, 444, 0, 0, 0, 0), (444, .iadd, 1, 445, 0, 0, 0, 0), (445, .iaload, 1, 446, 0, 0, 0, 0), (446, .invokevirtual 63, 3, 449, 1, 174, 3, 10), (449, .if_icmp .eq 275, 3, 452, 724, 0, 0, 0), (452, .iconst 0, 1, 453, 0, 0, 0, 0), (453, .ireturn, 1, 454, 0, 0, 0, 0), (454, .aload_n 1, 1, 455, 0, 0, 0, 0), (455, .aload_n 0, 1, 456, 0, 0, 0, 0), (456, .iload_n 3, 1, 457, 0, 0, 0, 0), (457, .iconst 1, 1, 458, 0, 0, 0, 0), (458, .iadd, 1, 459, 0, 0, 0, 0), (459, .iaload, 1, 460, 0, 0, 0, 0), (460, .invokevirtual 64, 3, 463, 1, 103, 2, 9), (463, .aload_n 2, 1, 464, 0, 0, 0, 0), (464, .aload_n 0, 1, 465, 0, 0, 0, 0), (465, .iload_n 3, 1, 466, 0, 0, 0, 0), (466, .iconst 1, 1, 467, 0, 0, 0, 0), (467, .iadd, 1, 468, 0, 0, 0, 0), (468, .iaload, 1, 469, 0, 0, 0, 0), (469, .invokevirtual 67, 3, 472, 1, 175, 2, 10), (472, .if_icmp .eq 252, 3, 475, 724, 0, 0, 0), (475, .iconst 0, 1, 476, 0, 0, 0, 0), (476, .ireturn, 1, 477, 0, 0, 0, 0), (477, .aload_n 1, 1, 478, 0, 0, 0, 0), (478, .invokevirtual 68, 3, 481, 1, 104, 1, 9), (481, .aload_n 2, 1, 482, 0, 0, 0, 0), (482, .invokevirtual 72, 3, 485, 1, 176, 1, 10), (485, .lcmp, 1, 486, 0, 0, 0, 0), (486, .ifCond .eq 238, 3, 489, 724, 0, 0, 0), (489, .iconst 0, 1, 490, 0, 0, 0, 0), (490, .ireturn, 1, 491, 0, 0, 0, 0), (491, .aload_n 1, 1, 492, 0, 0, 0, 0), (492, .aload_n 0, 1, 493, 0, 0, 0, 0), (493, .iload_n 3, 1, 494, 0, 0, 0, 0), (494, .iconst 1, 1, 495, 0, 0, 0, 0), (495, .iadd, 1, 496, 0, 0, 0, 0), (496, .iaload, 1, 497, 0, 0, 0, 0), (497, .invokevirtual 73, 3, 500, 1, 105, 2, 9), (500, .aload_n 2, 1, 501, 0, 0, 0, 0), (501, .aload_n 0, 1, 502, 0, 0, 0, 0), (502, .iload_n 3, 1, 503, 0, 0, 0, 0), (503, .iconst 1, 1, 504, 0, 0, 0, 0), (504, .iadd, 1, 505, 0, 0, 0, 0), (505, .iaload, 1, 506, 0, 0, 0, 0), (506, .invokevirtual 76, 3, 509, 1, 177, 2, 10), (509, .if_icmp .eq 215, 3, 512, 724, 0, 0, 0), (512, .iconst 0, 1, 513, 0, 0, 0, 0), (513, .ireturn, 1, 514, 0, 0, 0, 0), (514, .aload_n 1, 1, 515, 0, 0, 0, 0), (515, .invokevirtual 77, 3, 518, 1, 106, 1, 9), (518, .aload_n 2, 1, 519, 0, 0, 0, 0), (519, .invokevirtual 80, 3, 522, 1, 178, 1, 10), (522, .if_icmp .eq 202, 3, 525, 724, 0, 0, 0), (525, .iconst 0, 1, 526, 0, 0, 0, 0), (526, .ireturn, 1, 527, 0, 0, 0, 0), (527, .aload_n 1, 1, 528, 0, 0, 0, 0), (528, .invokevirtual 81, 3, 531, 1, 107, 1, 9), (531, .aload_n 2, 1, 532, 0, 0, 0, 0), (532, .invokevirtual 84, 3, 535, 1, 179, 1, 10), (535, .if_icmp .eq 189, 3, 538, 724, 0, 0, 0), (538, .iconst 0, 1, 539, 0, 0, 0, 0), (539, .ireturn, 1, 540, 0, 0, 0, 0), (540, .aload_n 1, 1, 541, 0, 0, 0, 0), (541, .aload_n 0, 1, 542, 0, 0, 0, 0), (542, .iload_n 3, 1, 543, 0, 0, 0, 0), (543, .iconst 1, 1, 544, 0, 0, 0, 0), (544, .iadd, 1, 545, 0, 0, 0, 0), (545, .iaload, 1, 546, 0, 0, 0, 0), (546, .invokevirtual 85, 3, 549, 1, 108, 2, 9), (549, .aload_n 2, 1, 550, 0, 0, 0, 0), (550, .aload_n 0, 1, 551, 0, 0, 0, 0), (551, .iload_n 3, 1, 552, 0, 0, 0, 0), (552, .iconst 1, 1, 553, 0, 0, 0, 0), (553, .iadd, 1, 554, 0, 0, 0, 0), (554, .iaload, 1, 555, 0, 0, 0, 0), (555, .invokevirtual 88, 3, 558, 1, 180, 2, 10), (558, .if_icmp .eq 166, 3, 561, 724, 0, 0, 0), (561, .iconst 0, 1, 562, 0, 0, 0, 0), (562, .ireturn, 1, 563, 0, 0, 0, 0), (563, .aload_n 1, 1, 564, 0, 0, 0, 0), (564, .aload_n 0, 1, 565, 0, 0, 0, 0), (565, .iload_n 3, 1, 566, 0, 0, 0, 0), (566, .iconst 1, 1, 567, 0, 0, 0, 0), (567, .iadd, 1, 568, 0, 0, 0, 0), (568, .iaload, 1, 569, 0, 0, 0, 0), (569, .invokevirtual 89, 3, 572, 1, 109, 2, 9), (572, .aload_n 2, 1, 573, 0, 0, 0, 0), (573, .aload_n 0, 1, 574, 0, 0, 0, 0), (574, .iload_n 3, 1, 575, 0, 0, 0, 0), (575, .iconst 1, 1, 576, 0, 0, 0, 0), (576, .iadd, 1, 577, 0, 0, 0, 0), (577, .iaload, 1, 578, 0, 0, 0, 0), (578, .invokevirtual 92, 3, 581, 1, 181, 2, 10), (581, .if_icmp .eq 143, 3, 584, 724, 0, 0, 0), (584, .iconst 0, 1, 585, 0, 0, 0, 0), (585, .ireturn, 1, 586, 0, 0, 0, 0), (586, .aload_n 1, 1, 587, 0, 0, 0, 0), (587, .aload_n 0, 1, 588, 0, 0, 0, 0), (588, .iload_n 3, 1, 589, 0, 0, 0, 0), (589, .iconst 1, 1, 590, 0, 0, 0, 0), (590, .iadd, 1, 591, 0, 0, 0, 0), (591, .iaload, 1, 592, 0, 0, 0, 0), (592, .i2l, 1, 593, 0, 0, 0, 0), (593, .bipush 32, 2, 595, 0, 0, 0, 0), (595, .lshl, 1, 596, 0, 0, 0, 0), (596, .aload_n 0, 1, 597, 0, 0, 0, 0), (597, .iload_n 3, 1, 598, 0, 0, 0, 0), (598, .iconst 2, 1, 599, 0, 0, 0, 0), (599, .iadd, 1, 600, 0, 0, 0, 0), (600, .iaload, 1, 601, 0, 0, 0, 0), (601, .i2l, 1, 602, 0, 0, 0, 0), (602, .ldc2_w 93, 3, 605, 0, 1, 4294967295, 0), (605, .land, 1, 606, 0, 0, 0, 0), (606, .lor, 1, 607, 0, 0, 0, 0), (607, .invokevirtual 95, 3, 610, 1, 110, 2, 9), (610, .aload_n 2, 1, 611, 0, 0, 0, 0), (611, .aload_n 0, 1, 612, 0, 0, 0, 0), (612, .iload_n 3, 1, 613, 0, 0, 0, 0), (613, .iconst 1, 1, 614, 0, 0, 0, 0), (614, .iadd, 1, 615, 0, 0, 0, 0), (615, .iaload, 1, 616, 0, 0, 0, 0), (616, .i2l, 1, 617, 0, 0, 0, 0), (617, .bipush 32, 2, 619, 0, 0, 0, 0), (619, .lshl, 1, 620, 0, 0, 0, 0), (620, .aload_n 0, 1, 621, 0, 0, 0, 0), (621, .iload_n 3, 1, 622, 0, 0, 0, 0), (622, .iconst 2, 1, 623, 0, 0, 0, 0), (623, .iadd, 1, 624, 0, 0, 0, 0), (624, .iaload, 1, 625, 0, 0, 0, 0), (625, .i2l, 1, 626, 0, 0, 0, 0), (626, .ldc2_w 93, 3, 629, 0, 1, 4294967295, 0), (629, .land, 1, 630, 0, 0, 0, 0), (630, .lor, 1, 631, 0, 0, 0, 0), (631, .invokevirtual 99, 3, 634, 1, 153, 2, 10), (634, .if_icmp .eq 90, 3, 637, 724, 0, 0, 0), (637, .iconst 0, 1, 638, 0, 0, 0, 0), (638, .ireturn, 1, 639, 0, 0, 0, 0), (639, .aload_n 1, 1, 640, 0, 0, 0, 0), (640, .invokevirtual 100, 3, 643, 1, 111, 1, 9), (643, .aload_n 2, 1, 644, 0, 0, 0, 0), (644, .invokevirtual 103, 3, 647, 1, 154, 1, 10), (647, .if_icmp .eq 77, 3, 650, 724, 0, 0, 0), (650, .iconst 0, 1, 651, 0, 0, 0, 0), (651, .ireturn, 1, 652, 0, 0, 0, 0), (652, .aload_n 1, 1, 653, 0, 0, 0, 0), (653, .invokevirtual 104, 3, 656, 1, 112, 1, 9), (656, .aload_n 2, 1, 657, 0, 0, 0, 0), (657, .invokevirtual 107, 3, 660, 1, 158, 1, 10), (660, .if_icmp .eq 64, 3, 663, 724, 0, 0, 0), (663, .iconst 0, 1, 664, 0, 0, 0, 0), (664, .ireturn, 1, 665, 0, 0, 0, 0), (665, .aload_n 1, 1, 666, 0, 0, 0, 0), (666, .invokevirtual 108, 3, 669, 1, 113, 1, 9), (669, .aload_n 2, 1, 670, 0, 0, 0, 0), (670, .invokevirtual 111, 3, 673, 1, 182, 1, 10), (673, .if_icmp .eq 51, 3, 676, 724, 0, 0, 0), (676, .iconst 0, 1, 677, 0, 0, 0, 0), (677, .ireturn, 1, 678, 0, 0, 0, 0), (678, .aload_n 1, 1, 679, 0, 0, 0, 0), (679, .aload_n 0, 1, 680, 0, 0, 0, 0), (680, .iload_n 3, 1, 681, 0, 0, 0, 0), (681, .iconst 1, 1, 682, 0, 0, 0, 0), (682, .iadd, 1, 683, 0, 0, 0, 0), (683, .iaload, 1, 684, 0, 0, 0, 0), (684, .invokevirtual 112, 3, 687, 1, 114, 2, 9), (687, .aload_n 2, 1, 688, 0, 0, 0, 0), (688, .aload_n 0, 1, 689, 0, 0, 0, 0), (689, .iload_n 3, 1, 690, 0, 0, 0, 0), (690, .iconst 1, 1, 691, 0, 0, 0, 0), (691, .iadd, 1, 692, 0, 0, 0, 0), (692, .iaload, 1, 693, 0, 0, 0, 0), (693, .invokevirtual 115, 3, 696, 1, 183, 2, 10), (696, .if_icmp .eq 28, 3, 699, 724, 0, 0, 0), (699, .iconst 0, 1, 700, 0, 0, 0, 0), (700, .ireturn, 1, 701, 0, 0, 0, 0), (701, .aload_n 1, 1, 702, 0, 0, 0, 0), (702, .aload_n 0, 1, 703, 0, 0, 0, 0), (703, .iload_n 3, 1, 704, 0, 0, 0, 0), (704, .iconst 1, 1, 705, 0, 0, 0, 0), (705, .iadd, 1, 706, 0, 0, 0, 0), (706, .iaload, 1, 707, 0, 0, 0, 0), (707, .invokevirtual 116, 3, 710, 1, 115, 2, 9), (710, .aload_n 2, 1, 711, 0, 0, 0, 0), (711, .aload_n 0, 1, 712, 0, 0, 0, 0), (712, .iload_n 3, 1, 713, 0, 0, 0, 0), (713, .iconst 1, 1, 714, 0, 0, 0, 0), (714, .iadd, 1, 715, 0, 0, 0, 0), (715, .iaload, 1, 716, 0, 0, 0, 0), (716, .invokevirtual 119, 3, 719, 1, 184, 2, 10), (719, .if_icmp .eq 5, 3, 722, 724, 0, 0, 0), (722, .iconst 0, 1, 723, 0, 0, 0, 0), (723, .ireturn, 1, 724, 0, 0, 0, 0), (724, .iinc 3 3, 3, 727, 0, 0, 0, 0), (727, .goto (-709), 3, 730, 18, 0, 0, 0), (730, .iconst 1, 1, 731, 0, 0, 0, 0), (731, .ireturn, 1, 732, 0, 0, 0, 0)])
def prg : List MM := [k_X0_init, k_X0_clear, k_X0_copy, k_X0_ruleCount, k_X0_hasRule, k_X0_hasSymbol, k_X0_isRule, k_X0_hasPlace, k_X0_mainRow, k_X0_ruleRow, k_X0_mainSymbol, k_X0_wordLetters, k_X0_lettersOfRule, k_X0_depthOfRule, k_X0_usesOf, k_X0_lettersOfSymbol, k_X0_totalSize, k_X0_deepest, k_X0_unusedRules, k_X0_tellsTooMuch, k_X0_measure, k_X0_depthOfRow, k_X0_noteUses, k_X0_lettersAhead, k_X0_positionOf, k_X0_positionInMain, k_X0_isBoundary, k_X0_openTo, k_X0_setInMain, k_X0_putIntoMain, k_X0_takeFromMain, k_X0_addRule, k_X0_foldUpTo, k_X0_canUnroll, k_X0_unrollRule, k_X0_unrollSeldomUsed, k_X0_lowestSeldomUsed, k_X1_init, k_X1_size, k_X1_record, k_X1_takeBack, k_X2_init, k_X2_size, k_X2_at, k_X2_add, k_X2_clear, k_X3_init, k_X3_bestFirst, k_X3_bestSecond, k_X3_bestTimes, k_X3_findBest, k_X3_countAll, k_X3_keyAt, k_X4_init, k_X4_foundLetter, k_X4_rulesPassed, k_X4_follow, k_X5_init, k_X5_read, k_X5_next, k_X5_startRow, k_X5_endRule, k_X5_grow, k_X5_symbolOf, k_X6_init, k_X6_size, k_X6_has, k_X6_at, k_X6_set, k_X6_clear, k_X6_copy, k_X6_add, k_X6_putIn, k_X6_takeOut, k_X6_open, k_X6_shift, k_X6_hasPair, k_X6_timesOfPair, k_X6_foldPair, k_X6_canUnroll, k_X6_unrollSymbol, k_X7_init, k_X7_markOfWord, k_X7_timesOfLetter, k_X7_sumRules, k_X7_sumRow, k_X8_init, k_X8_start, k_X8_next, k_X8_enter, k_X9_init, k_X9_tell, k_X9_fold, k_X9_unroll, k_X9_prune, k_X9_edit, k_X9_insert, k_X9_delete, k_X9_letter, k_X9_symbol, k_X9_ofRule, k_X9_count, k_X9_pair, k_X9_best, k_X9_ratio, k_X9_share, k_X9_mark, k_X9_couldBe, k_X9_unlike, k_X9_opens, k_X9_put, k_X9_wipe, k_X9_fault, k_X9_undo, k_X9_save, k_X9_restore, k_X9_accept, k_X9_isLetter, k_X9_isSlot, k_X9_codeIn, k_X9_lengthOf, k_X9_bitsOf, k_X10_init, k_X10_in, k_X10_copy, k_X10_changed, k_X10_rowLong, k_X10_at, k_X10_isRule, k_X10_ruleOf, k_X10_isLetter, k_X10_rowAt, k_X10_letters, k_X10_measures, k_X10_wordLong, k_X10_used, k_X10_digs, k_X10_size, k_X10_tellsWord, k_X10_pairs, k_X10_pairsFrom, k_X10_bestPlace, k_X10_folds, k_X10_usedIn, k_X10_canUnroll, k_X10_unrollsIn, k_X10_unrolls, k_X10_nextPruned, k_X10_prunes, k_X10_seeks, k_X10_opensAt, k_X10_opensTo, k_X10_fails, k_X10_put, k_X10_wipe, k_X10_takes, k_X10_symbolOf, k_X10_readsRow, k_X10_fault, k_X10_tell, k_X10_fold, k_X10_unroll, k_X10_prune, k_X10_edit, k_X10_isFirst, k_X10_insert, k_X10_delete, k_X10_letter, k_X10_symbol, k_X10_ofRule, k_X10_deepest, k_X10_notUsed, k_X10_count, k_X10_isSymbol, k_X10_pair, k_X10_best, k_X10_ratio, k_X10_share, k_X10_mark, k_X10_couldBe, k_X10_unlike, k_X10_opens, k_X10_undo, k_X10_save, k_X10_restore, k_Jxe99ae_isNaN_b9ae7, k_Jxe99ae_doubleToLongBits_ccdee, k_Jxf58ca_isNaN_12338, k_Jxf58ca_floatToIntBits_5c35a, k_J9_max_7cf53, k_J9_min_7cf53, k_J7_fill_53178, k_L_law]
def ownS : List String := [RX0, RX1, RX2, RX3, RX4, RX5, RX6, RX7, RX8, RX9, RX10, RJxe99ae, RJxf58ca, RJ9, RJ7, RL]
def mitC : List MI := [(yX0_init, cX0_init, 2, none, 2, 0, 0), (yX0_clear, cX0_clear, 1, none, 5, 0, 0), (yX0_copy, cX0_copy, 3, none, 2, 0, 1), (yX0_ruleCount, cX0_ruleCount, 1, (some .int), 1, 0, 0), (yX0_hasRule, cX0_hasRule, 2, (some .boolean), 1, 0, 1), (yX0_hasSymbol, cX0_hasSymbol, 2, (some .boolean), 2, 0, 1), (yX0_isRule, cX0_isRule, 2, (some .boolean), 1, 0, 1), (yX0_hasPlace, cX0_hasPlace, 2, (some .boolean), 1, 0, 1), (yX0_mainRow, cX0_mainRow, 1, (some (.object "PairGrammars$Row")), 1, 0, 0), (yX0_ruleRow, cX0_ruleRow, 2, (some (.object "PairGrammars$Row")), 2, 0, 1), (yX0_mainSymbol, cX0_mainSymbol, 2, (some .int), 3, 0, 1), (yX0_wordLetters, cX0_wordLetters, 1, (some .int), 1, 0, 0), (yX0_lettersOfRule, cX0_lettersOfRule, 2, (some .int), 2, 0, 1), (yX0_depthOfRule, cX0_depthOfRule, 2, (some .int), 2, 0, 1), (yX0_usesOf, cX0_usesOf, 2, (some .int), 2, 0, 1), (yX0_lettersOfSymbol, cX0_lettersOfSymbol, 3, (some .int), 1, 0, 1), (yX0_totalSize, cX0_totalSize, 3, (some .int), 3, 0, 0), (yX0_deepest, cX0_deepest, 3, (some .int), 3, 0, 0), (yX0_unusedRules, cX0_unusedRules, 3, (some .int), 3, 0, 0), (yX0_tellsTooMuch, cX0_tellsTooMuch, 2, (some .boolean), 3, 0, 0), (yX0_measure, cX0_measure, 2, none, 4, 0, 0), (yX0_depthOfRow, cX0_depthOfRow, 4, (some .int), 3, 0, 1), (yX0_noteUses, cX0_noteUses, 4, none, 3, 0, 1), (yX0_lettersAhead, cX0_lettersAhead, 5, (some .int), 3, 0, 2), (yX0_positionOf, cX0_positionOf, 5, (some .int), 3, 0, 2), (yX0_positionInMain, cX0_positionInMain, 2, (some .int), 4, 0, 1), (yX0_isBoundary, cX0_isBoundary, 2, (some .boolean), 5, 0, 1), (yX0_openTo, cX0_openTo, 5, (some .int), 5, 0, 1), (yX0_setInMain, cX0_setInMain, 3, none, 5, 0, 2), (yX0_putIntoMain, cX0_putIntoMain, 4, (some .boolean), 5, 0, 2), (yX0_takeFromMain, cX0_takeFromMain, 2, none, 5, 0, 1), (yX0_addRule, cX0_addRule, 2, (some (.object "PairGrammars$Row")), 2, 0, 0), (yX0_foldUpTo, cX0_foldUpTo, 6, (some .int), 6, 0, 2), (yX0_canUnroll, cX0_canUnroll, 4, (some .boolean), 4, 0, 1), (yX0_unrollRule, cX0_unrollRule, 4, none, 5, 0, 1), (yX0_unrollSeldomUsed, cX0_unrollSeldomUsed, 3, (some .int), 6, 0, 0), (yX0_lowestSeldomUsed, cX0_lowestSeldomUsed, 2, (some .int), 5, 0, 0), (yX1_init, cX1_init, 2, none, 3, 1, 0), (yX1_size, cX1_size, 1, (some .int), 1, 1, 0), (yX1_record, cX1_record, 2, none, 3, 1, 1), (yX1_takeBack, cX1_takeBack, 2, none, 3, 1, 1), (yX2_init, cX2_init, 1, none, 1, 2, 0), (yX2_size, cX2_size, 1, (some .int), 1, 2, 0), (yX2_at, cX2_at, 2, (some .int), 1, 2, 1), (yX2_add, cX2_add, 2, none, 1, 2, 1), (yX2_clear, cX2_clear, 1, none, 1, 2, 0), (yX3_init, cX3_init, 1, none, 1, 3, 0), (yX3_bestFirst, cX3_bestFirst, 1, (some .int), 1, 3, 0), (yX3_bestSecond, cX3_bestSecond, 1, (some .int), 1, 3, 0), (yX3_bestTimes, cX3_bestTimes, 1, (some .int), 1, 3, 0), (yX3_findBest, cX3_findBest, 4, (some .boolean), 5, 3, 1), (yX3_countAll, cX3_countAll, 5, none, 4, 3, 1), (yX3_keyAt, cX3_keyAt, 4, (some .int), 3, 3, 2), (yX4_init, cX4_init, 1, none, 1, 4, 0), (yX4_foundLetter, cX4_foundLetter, 1, (some .int), 1, 4, 0), (yX4_rulesPassed, cX4_rulesPassed, 1, (some .int), 1, 4, 0), (yX4_follow, cX4_follow, 6, none, 4, 4, 2), (yX5_init, cX5_init, 1, none, 2, 5, 0), (yX5_read, cX5_read, 5, (some .int), 6, 5, 2), (yX5_next, cX5_next, 4, (some .int), 5, 5, 3), (yX5_startRow, cX5_startRow, 3, (some .int), 4, 5, 2), (yX5_endRule, cX5_endRule, 2, (some .int), 3, 5, 1), (yX5_grow, cX5_grow, 6, (some .int), 3, 5, 4), (yX5_symbolOf, cX5_symbolOf, 1, (some .int), 1, 5, 1), (yX6_init, cX6_init, 1, none, 1, 6, 0), (yX6_size, cX6_size, 1, (some .int), 1, 6, 0), (yX6_has, cX6_has, 2, (some .boolean), 1, 6, 1), (yX6_at, cX6_at, 2, (some .int), 2, 6, 1), (yX6_set, cX6_set, 3, none, 2, 6, 2), (yX6_clear, cX6_clear, 1, none, 1, 6, 0), (yX6_copy, cX6_copy, 2, none, 1, 6, 1), (yX6_add, cX6_add, 2, (some .boolean), 1, 6, 1), (yX6_putIn, cX6_putIn, 3, (some .boolean), 3, 6, 2), (yX6_takeOut, cX6_takeOut, 2, none, 2, 6, 1), (yX6_open, cX6_open, 3, (some .boolean), 2, 6, 2), (yX6_shift, cX6_shift, 3, (some .boolean), 1, 6, 2), (yX6_hasPair, cX6_hasPair, 4, (some .boolean), 3, 6, 3), (yX6_timesOfPair, cX6_timesOfPair, 6, (some .int), 4, 6, 2), (yX6_foldPair, cX6_foldPair, 7, none, 4, 6, 3), (yX6_canUnroll, cX6_canUnroll, 5, (some .boolean), 3, 6, 2), (yX6_unrollSymbol, cX6_unrollSymbol, 4, none, 3, 6, 2), (yX7_init, cX7_init, 1, none, 1, 7, 0), (yX7_markOfWord, cX7_markOfWord, 3, (some .int), 5, 7, 1), (yX7_timesOfLetter, cX7_timesOfLetter, 4, (some .int), 5, 7, 2), (yX7_sumRules, cX7_sumRules, 3, none, 4, 7, 1), (yX7_sumRow, cX7_sumRow, 5, none, 3, 7, 2), (yX8_init, cX8_init, 1, none, 1, 8, 0), (yX8_start, cX8_start, 1, none, 2, 8, 0), (yX8_next, cX8_next, 5, (some .int), 3, 8, 1), (yX8_enter, cX8_enter, 2, none, 1, 8, 1), (yX9_init, cX9_init, 2, none, 4, 9, 0), (yX9_tell, cX9_tell, 1, (some .int), 7, 9, 0), (yX9_fold, cX9_fold, 3, (some .int), 7, 9, 1), (yX9_unroll, cX9_unroll, 2, (some .int), 6, 9, 1), (yX9_prune, cX9_prune, 1, (some .int), 7, 9, 0), (yX9_edit, cX9_edit, 5, (some .int), 6, 9, 2), (yX9_insert, cX9_insert, 4, (some .int), 6, 9, 2), (yX9_delete, cX9_delete, 4, (some .int), 6, 9, 1), (yX9_letter, cX9_letter, 2, (some .int), 5, 9, 1), (yX9_symbol, cX9_symbol, 4, (some .int), 3, 9, 2), (yX9_ofRule, cX9_ofRule, 3, (some .int), 3, 9, 2), (yX9_count, cX9_count, 2, (some .int), 4, 9, 1), (yX9_pair, cX9_pair, 3, (some .int), 5, 9, 2), (yX9_best, cX9_best, 2, (some .int), 6, 9, 1), (yX9_ratio, cX9_ratio, 2, (some .long), 4, 9, 0), (yX9_share, cX9_share, 4, (some .int), 6, 9, 1), (yX9_mark, cX9_mark, 1, (some .int), 6, 9, 0), (yX9_couldBe, cX9_couldBe, 1, (some .int), 7, 9, 0), (yX9_unlike, cX9_unlike, 4, (some .int), 4, 9, 1), (yX9_opens, cX9_opens, 2, (some .int), 5, 9, 1), (yX9_put, cX9_put, 5, (some .int), 3, 9, 1), (yX9_wipe, cX9_wipe, 2, (some .int), 2, 9, 0), (yX9_fault, cX9_fault, 1, (some .int), 7, 9, 0), (yX9_undo, cX9_undo, 1, (some .int), 4, 9, 0), (yX9_save, cX9_save, 2, (some .int), 3, 9, 1), (yX9_restore, cX9_restore, 2, (some .int), 5, 9, 1), (yX9_accept, cX9_accept, 2, (some .int), 4, 9, 1), (yX9_isLetter, cX9_isLetter, 1, (some .boolean), 1, 9, 1), (yX9_isSlot, cX9_isSlot, 2, (some .boolean), 1, 9, 1), (yX9_codeIn, cX9_codeIn, 3, (some .int), 1, 9, 2), (yX9_lengthOf, cX9_lengthOf, 4, (some .int), 2, 9, 1), (yX9_bitsOf, cX9_bitsOf, 11, (some .long), 1, 9, 3), (yX10_init, cX10_init, 1, none, 1, 10, 0), (yX10_in, cX10_in, 6, (some .boolean), 1, 10, 3), (yX10_copy, cX10_copy, 3, none, 1, 10, 2), (yX10_changed, cX10_changed, 3, (some .int), 1, 10, 1), (yX10_rowLong, cX10_rowLong, 2, (some .int), 1, 10, 1), (yX10_at, cX10_at, 3, (some .int), 1, 10, 2), (yX10_isRule, cX10_isRule, 2, (some .boolean), 2, 10, 1), (yX10_ruleOf, cX10_ruleOf, 1, (some .int), 1, 10, 1), (yX10_isLetter, cX10_isLetter, 1, (some .boolean), 1, 10, 1), (yX10_rowAt, cX10_rowAt, 2, (some .int), 1, 10, 1), (yX10_letters, cX10_letters, 2, (some .int), 2, 10, 1), (yX10_measures, cX10_measures, 5, none, 3, 10, 0), (yX10_wordLong, cX10_wordLong, 1, (some .int), 4, 10, 0), (yX10_used, cX10_used, 6, (some .int), 2, 10, 1), (yX10_digs, cX10_digs, 5, none, 2, 10, 0), (yX10_size, cX10_size, 3, (some .int), 2, 10, 0), (yX10_tellsWord, cX10_tellsWord, 8, (some .int), 2, 10, 3), (yX10_pairs, cX10_pairs, 6, (some .int), 2, 10, 2), (yX10_pairsFrom, cX10_pairsFrom, 2, (some .int), 3, 10, 1), (yX10_bestPlace, cX10_bestPlace, 3, (some .int), 4, 10, 0), (yX10_folds, cX10_folds, 9, (some .boolean), 5, 10, 0), (yX10_usedIn, cX10_usedIn, 5, (some .int), 2, 10, 2), (yX10_canUnroll, cX10_canUnroll, 5, (some .boolean), 3, 10, 1), (yX10_unrollsIn, cX10_unrollsIn, 8, none, 2, 10, 2), (yX10_unrolls, cX10_unrolls, 3, none, 3, 10, 1), (yX10_nextPruned, cX10_nextPruned, 2, (some .int), 4, 10, 0), (yX10_prunes, cX10_prunes, 3, (some .int), 5, 10, 0), (yX10_seeks, cX10_seeks, 2, none, 3, 10, 1), (yX10_opensAt, cX10_opensAt, 5, none, 2, 10, 1), (yX10_opensTo, cX10_opensTo, 2, (some .boolean), 4, 10, 1), (yX10_fails, cX10_fails, 2, (some .int), 2, 10, 1), (yX10_put, cX10_put, 8, (some .int), 2, 10, 1), (yX10_wipe, cX10_wipe, 2, (some .int), 1, 10, 0), (yX10_takes, cX10_takes, 3, (some .boolean), 1, 10, 1), (yX10_symbolOf, cX10_symbolOf, 2, (some .int), 2, 10, 2), (yX10_readsRow, cX10_readsRow, 4, (some .boolean), 3, 10, 2), (yX10_fault, cX10_fault, 2, (some .int), 4, 10, 0), (yX10_tell, cX10_tell, 3, (some .int), 5, 10, 0), (yX10_fold, cX10_fold, 3, (some .int), 6, 10, 1), (yX10_unroll, cX10_unroll, 3, (some .int), 4, 10, 1), (yX10_prune, cX10_prune, 1, (some .int), 6, 10, 0), (yX10_edit, cX10_edit, 4, (some .int), 5, 10, 2), (yX10_isFirst, cX10_isFirst, 2, (some .boolean), 4, 10, 1), (yX10_insert, cX10_insert, 5, (some .int), 5, 10, 2), (yX10_delete, cX10_delete, 4, (some .int), 5, 10, 1), (yX10_letter, cX10_letter, 6, (some .int), 5, 10, 1), (yX10_symbol, cX10_symbol, 4, (some .int), 3, 10, 2), (yX10_ofRule, cX10_ofRule, 3, (some .int), 4, 10, 2), (yX10_deepest, cX10_deepest, 3, (some .int), 3, 10, 0), (yX10_notUsed, cX10_notUsed, 3, (some .int), 3, 10, 0), (yX10_count, cX10_count, 2, (some .int), 5, 10, 1), (yX10_isSymbol, cX10_isSymbol, 2, (some .boolean), 2, 10, 1), (yX10_pair, cX10_pair, 3, (some .int), 3, 10, 2), (yX10_best, cX10_best, 3, (some .int), 5, 10, 1), (yX10_ratio, cX10_ratio, 2, (some .long), 5, 10, 0), (yX10_share, cX10_share, 5, (some .int), 3, 10, 1), (yX10_mark, cX10_mark, 4, (some .int), 3, 10, 0), (yX10_couldBe, cX10_couldBe, 4, (some .int), 6, 10, 0), (yX10_unlike, cX10_unlike, 5, (some .int), 3, 10, 1), (yX10_opens, cX10_opens, 7, (some .int), 5, 10, 1), (yX10_undo, cX10_undo, 2, (some .int), 1, 10, 0), (yX10_save, cX10_save, 3, (some .int), 2, 10, 1), (yX10_restore, cX10_restore, 3, (some .int), 2, 10, 1), (yJxe99ae_isNaN_b9ae7, cJxe99ae_isNaN_b9ae7, 2, (some .boolean), 1, 11, 1), (yJxe99ae_doubleToLongBits_ccdee, cJxe99ae_doubleToLongBits_ccdee, 2, (some .long), 2, 11, 1), (yJxf58ca_isNaN_12338, cJxf58ca_isNaN_12338, 1, (some .boolean), 1, 12, 1), (yJxf58ca_floatToIntBits_5c35a, cJxf58ca_floatToIntBits_5c35a, 1, (some .int), 2, 12, 1), (yJ9_max_7cf53, cJ9_max_7cf53, 2, (some .int), 1, 13, 2), (yJ9_min_7cf53, cJ9_min_7cf53, 2, (some .int), 1, 13, 2), (yJ7_fill_53178, cJ7_fill_53178, 4, none, 1, 14, 2)]
def mitL : MI := (yL_law, cL_law, 4, (some .boolean), 8, 15, 1)
def mit : List MI := mitC ++ [mitL]
/-- fields that are linked: class, index, the object's class, the slot, the word's place -/
def fdl : List (Nat × Nat × Nat × Nat × Nat) := [(6, 9, 6, 0, 39), (6, 15, 6, 1, 40), (0, 11, 0, 0, 47), (0, 18, 0, 1, 48), (0, 22, 0, 2, 49), (0, 26, 0, 3, 50), (0, 30, 0, 4, 51), (0, 33, 0, 5, 52), (0, 36, 0, 6, 53), (2, 9, 2, 0, 75), (2, 15, 2, 1, 76), (1, 11, 1, 0, 91), (1, 17, 1, 1, 92), (1, 21, 1, 2, 93), (5, 12, 5, 0, 109), (3, 9, 3, 0, 120), (3, 15, 3, 1, 121), (3, 19, 3, 2, 122), (3, 22, 3, 3, 123), (7, 9, 7, 0, 139), (7, 15, 7, 1, 140), (7, 18, 7, 2, 141), (7, 22, 7, 3, 142), (4, 9, 4, 0, 158), (4, 15, 4, 1, 159), (8, 9, 8, 0, 171), (8, 15, 8, 1, 172), (8, 18, 8, 2, 173), (9, 12, 9, 0, 181), (9, 16, 9, 1, 182), (9, 22, 9, 2, 183), (9, 29, 9, 3, 184), (9, 33, 9, 4, 185), (9, 37, 9, 5, 186), (9, 44, 9, 6, 187), (9, 51, 9, 7, 188), (9, 58, 9, 8, 189), (9, 65, 9, 9, 190), (9, 72, 9, 10, 191), (9, 76, 9, 11, 192), (10, 7, 10, 0, 728), (10, 13, 10, 1, 729), (10, 16, 10, 2, 730), (10, 19, 10, 3, 731), (10, 52, 10, 4, 732), (10, 22, 10, 5, 733), (10, 25, 10, 6, 734), (10, 28, 10, 7, 735), (10, 31, 10, 8, 736), (10, 34, 10, 9, 737), (10, 37, 10, 10, 738), (10, 40, 10, 11, 739), (10, 43, 10, 12, 740), (10, 46, 10, 13, 741), (10, 114, 10, 14, 742), (10, 117, 10, 15, 743), (10, 49, 10, 16, 744), (10, 136, 10, 17, 745), (10, 139, 10, 18, 746)]
/-- calls: class, index, kind, method, values, receiver's class, and the places of the words -/
def cll_0 : List (Nat × Nat × Nat × Nat × Nat × Nat × Nat × Nat × Nat × Nat × Nat) := [(0, 3, 4, 0, 0, 0, 79, 73, 0, 72, 0), (0, 17, 3, 64, 1, 0, 83, 85, 51, 84, 0), (0, 39, 1, 69, 1, 6, 278, 281, 51, 279, 280), (0, 42, 1, 20, 1, 0, 282, 285, 50, 283, 284), (0, 45, 1, 70, 2, 6, 422, 389, 51, 387, 388), (0, 49, 5, 0, 0, 0, 423, 392, 62, 391, 0), (0, 55, 8, 117, 1, 0, 367, 369, 49, 368, 0), (0, 59, 1, 6, 2, 0, 370, 373, 50, 371, 372), (0, 62, 1, 4, 2, 0, 320, 323, 50, 321, 322), (0, 65, 1, 67, 2, 6, 297, 300, 51, 298, 299), (0, 69, 1, 65, 1, 6, 289, 292, 51, 290, 291), (0, 73, 1, 9, 2, 0, 484, 487, 50, 485, 486), (0, 77, 1, 13, 2, 0, 316, 319, 50, 317, 318), (0, 80, 0, 189, 2, 0, 324, 326, 61, 325, 0), (0, 86, 1, 14, 2, 0, 524, 511, 50, 509, 510), (0, 89, 1, 12, 2, 0, 398, 401, 50, 399, 400), (0, 92, 0, 191, 2, 0, 286, 288, 60, 287, 0), (0, 98, 1, 23, 3, 0, 293, 296, 50, 294, 295), (0, 102, 1, 21, 2, 0, 312, 315, 50, 314, 0), (0, 106, 1, 22, 2, 0, 327, 330, 50, 329, 1), (0, 109, 1, 15, 2, 0, 305, 308, 50, 306, 307), (0, 112, 0, 190, 2, 0, 309, 311, 61, 310, 0), (0, 115, 1, 24, 3, 0, 544, 547, 50, 545, 546), (0, 118, 1, 25, 2, 0, 540, 543, 50, 541, 542), (0, 121, 1, 74, 3, 6, 548, 503, 51, 501, 502), (0, 125, 1, 68, 3, 6, 557, 474, 51, 472, 473), (0, 129, 1, 72, 3, 6, 571, 574, 51, 572, 573), (0, 133, 1, 73, 2, 6, 583, 586, 51, 584, 585), (0, 137, 1, 50, 2, 3, 434, 437, 55, 435, 436), (0, 143, 1, 49, 1, 3, 448, 451, 55, 449, 450), (0, 146, 1, 31, 1, 0, 452, 385, 50, 383, 384), (0, 150, 1, 47, 1, 3, 453, 456, 55, 454, 455), (0, 153, 1, 71, 2, 6, 457, 377, 51, 375, 376), (0, 156, 1, 48, 1, 3, 458, 461, 55, 459, 460), (0, 159, 1, 78, 4, 6, 462, 465, 51, 463, 464), (0, 163, 1, 79, 3, 6, 488, 491, 51, 489, 490), (0, 166, 1, 80, 3, 6, 496, 499, 51, 497, 498), (0, 170, 1, 36, 1, 0, 520, 523, 50, 522, 11), (0, 173, 1, 34, 2, 0, 526, 495, 50, 493, 494), (0, 176, 1, 33, 2, 0, 525, 483, 50, 481, 482)]
def cll_1 : List (Nat × Nat × Nat × Nat × Nat × Nat × Nat × Nat × Nat × Nat × Nat) := [(1, 3, 4, 0, 0, 0, 135, 73, 0, 72, 0), (1, 24, 2, 0, 1, 0, 138, 78, 50, 77, 0), (1, 25, 1, 2, 2, 0, 418, 421, 50, 419, 420), (1, 29, 0, 190, 2, 0, 424, 311, 61, 310, 0), (2, 3, 4, 0, 0, 0, 122, 73, 0, 72, 0), (3, 3, 4, 0, 0, 0, 167, 73, 0, 72, 0), (3, 25, 1, 51, 2, 3, 438, 441, 55, 440, 7), (3, 29, 1, 65, 1, 6, 442, 292, 51, 290, 291), (3, 35, 1, 52, 3, 3, 443, 446, 55, 445, 8), (3, 39, 1, 67, 2, 6, 447, 300, 51, 298, 299), (4, 3, 4, 0, 0, 0, 205, 73, 0, 72, 0), (4, 18, 1, 8, 1, 0, 595, 358, 50, 356, 357), (4, 24, 1, 24, 3, 0, 596, 547, 50, 545, 546), (4, 28, 1, 67, 2, 6, 597, 300, 51, 298, 299), (4, 34, 1, 6, 2, 0, 598, 373, 50, 371, 372), (4, 38, 1, 23, 3, 0, 599, 296, 50, 294, 295), (4, 41, 1, 9, 2, 0, 600, 487, 50, 485, 486), (5, 3, 4, 0, 0, 0, 154, 73, 0, 72, 0), (5, 11, 3, 64, 1, 0, 156, 85, 51, 84, 0), (5, 18, 1, 1, 1, 0, 274, 277, 50, 275, 276), (5, 23, 1, 42, 1, 2, 331, 334, 52, 332, 333), (5, 29, 1, 43, 2, 2, 335, 338, 52, 336, 337), (5, 33, 1, 59, 4, 5, 339, 342, 54, 341, 2), (5, 37, 1, 20, 1, 0, 393, 285, 50, 283, 284), (5, 40, 1, 60, 3, 5, 343, 346, 54, 345, 3), (5, 44, 1, 62, 5, 5, 359, 362, 54, 361, 4), (5, 48, 1, 61, 2, 5, 378, 381, 54, 380, 5), (5, 52, 1, 8, 1, 0, 355, 358, 50, 356, 357), (5, 56, 0, 63, 1, 0, 347, 349, 54, 348, 0), (5, 59, 1, 3, 1, 0, 350, 353, 50, 351, 352), (5, 62, 1, 69, 1, 6, 354, 281, 51, 279, 280), (5, 63, 1, 31, 1, 0, 382, 385, 50, 383, 384), (5, 66, 1, 70, 2, 6, 386, 389, 51, 387, 388), (5, 70, 1, 5, 2, 0, 363, 366, 50, 364, 365), (5, 74, 1, 71, 2, 6, 374, 377, 51, 375, 376), (6, 3, 4, 0, 0, 0, 86, 73, 0, 72, 0), (6, 19, 1, 66, 2, 6, 301, 304, 51, 302, 303), (6, 23, 5, 0, 0, 0, 390, 392, 62, 391, 0), (6, 29, 1, 75, 3, 6, 504, 507, 51, 506, 10), (6, 33, 1, 68, 3, 6, 471, 474, 51, 472, 473)]
def cll_2 : List (Nat × Nat × Nat × Nat × Nat × Nat × Nat × Nat × Nat × Nat × Nat) := [(6, 37, 1, 67, 2, 6, 470, 300, 51, 298, 299), (6, 41, 1, 76, 4, 6, 466, 469, 51, 468, 9), (6, 45, 1, 74, 3, 6, 500, 503, 51, 501, 502), (7, 3, 4, 0, 0, 0, 186, 73, 0, 72, 0), (7, 25, 1, 84, 2, 7, 675, 678, 56, 677, 12), (7, 29, 1, 8, 1, 0, 687, 358, 50, 356, 357), (7, 35, 1, 85, 3, 7, 681, 684, 56, 683, 13), (7, 39, 1, 3, 1, 0, 679, 353, 50, 351, 352), (7, 43, 1, 9, 2, 0, 680, 487, 50, 485, 486), (7, 47, 1, 65, 1, 6, 685, 292, 51, 290, 291), (7, 52, 1, 67, 2, 6, 686, 300, 51, 298, 299), (8, 3, 4, 0, 0, 0, 218, 73, 0, 72, 0), (8, 22, 1, 89, 2, 8, 712, 715, 58, 714, 15), (8, 26, 1, 9, 2, 0, 720, 487, 50, 485, 486), (8, 32, 1, 67, 2, 6, 721, 300, 51, 298, 299), (8, 38, 8, 117, 1, 0, 722, 369, 49, 368, 0), (8, 42, 1, 6, 2, 0, 723, 373, 50, 371, 372), (9, 3, 4, 0, 0, 0, 71, 73, 0, 72, 0), (9, 11, 2, 0, 1, 0, 76, 78, 50, 77, 0), (9, 21, 3, 41, 1, 0, 119, 121, 52, 120, 0), (9, 28, 2, 37, 1, 0, 132, 134, 53, 133, 0), (9, 43, 3, 57, 1, 0, 151, 153, 54, 152, 0), (9, 50, 3, 46, 1, 0, 164, 166, 55, 165, 0), (9, 57, 3, 81, 1, 0, 183, 185, 56, 184, 0), (9, 64, 3, 53, 1, 0, 202, 204, 57, 203, 0), (9, 71, 3, 86, 1, 0, 215, 217, 58, 216, 0), (9, 79, 1, 58, 3, 5, 270, 273, 54, 271, 272), (9, 83, 1, 19, 1, 0, 394, 397, 50, 395, 396), (9, 87, 1, 45, 1, 2, 402, 405, 52, 403, 404), (9, 90, 1, 11, 1, 0, 406, 409, 50, 407, 408), (9, 94, 1, 116, 2, 9, 410, 413, 49, 412, 6), (9, 98, 1, 2, 2, 0, 425, 421, 50, 419, 420), (9, 102, 1, 32, 3, 0, 430, 433, 50, 431, 432), (9, 106, 1, 4, 2, 0, 479, 323, 50, 321, 322), (9, 110, 1, 33, 2, 0, 480, 483, 50, 481, 482), (9, 113, 1, 34, 2, 0, 492, 495, 50, 493, 494), (9, 117, 1, 14, 2, 0, 508, 511, 50, 509, 510), (9, 120, 1, 35, 1, 0, 516, 519, 50, 517, 518), (9, 123, 1, 7, 2, 0, 531, 534, 50, 532, 533), (9, 126, 0, 117, 1, 0, 535, 369, 49, 368, 0)]
def cll_3 : List (Nat × Nat × Nat × Nat × Nat × Nat × Nat × Nat × Nat × Nat × Nat) := [(9, 129, 1, 27, 2, 0, 536, 539, 50, 537, 538), (9, 132, 1, 10, 2, 0, 549, 552, 50, 550, 551), (9, 135, 1, 28, 3, 0, 553, 556, 50, 554, 555), (9, 139, 1, 26, 2, 0, 562, 565, 50, 563, 564), (9, 142, 1, 25, 2, 0, 566, 543, 50, 541, 542), (9, 145, 1, 29, 3, 0, 567, 570, 50, 568, 569), (9, 149, 1, 30, 2, 0, 579, 582, 50, 580, 581), (9, 152, 1, 56, 3, 4, 591, 594, 57, 592, 593), (9, 156, 1, 54, 1, 4, 601, 604, 57, 602, 603), (9, 159, 1, 9, 2, 0, 609, 487, 50, 485, 486), (9, 163, 1, 66, 2, 6, 610, 304, 51, 302, 303), (9, 168, 1, 67, 2, 6, 611, 300, 51, 298, 299), (9, 171, 1, 65, 1, 6, 616, 292, 51, 290, 291), (9, 174, 1, 12, 2, 0, 617, 401, 50, 399, 400), (9, 177, 1, 13, 2, 0, 618, 319, 50, 317, 318), (9, 180, 1, 8, 1, 0, 623, 358, 50, 356, 357), (9, 184, 1, 3, 1, 0, 624, 353, 50, 351, 352), (9, 187, 1, 16, 1, 0, 625, 628, 50, 626, 627), (9, 190, 1, 17, 1, 0, 629, 632, 50, 630, 631), (9, 193, 1, 18, 1, 0, 633, 636, 50, 634, 635), (9, 196, 1, 42, 1, 2, 637, 334, 52, 332, 333), (9, 197, 1, 38, 1, 1, 638, 641, 53, 639, 640), (9, 198, 1, 5, 2, 0, 646, 366, 50, 364, 365), (9, 201, 1, 77, 3, 6, 647, 650, 51, 648, 649), (9, 205, 1, 50, 2, 3, 655, 437, 55, 435, 436), (9, 209, 1, 47, 1, 3, 656, 456, 55, 454, 455), (9, 212, 1, 48, 1, 3, 657, 461, 55, 459, 460), (9, 215, 1, 49, 1, 3, 658, 451, 55, 449, 450), (9, 218, 0, 121, 3, 0, 663, 665, 49, 664, 0), (9, 222, 1, 83, 3, 7, 671, 674, 56, 672, 673), (9, 226, 1, 82, 2, 7, 692, 695, 56, 693, 694), (9, 230, 1, 118, 2, 9, 704, 707, 49, 706, 14), (9, 233, 1, 87, 1, 8, 708, 711, 58, 709, 710), (9, 236, 1, 88, 2, 8, 716, 719, 58, 717, 718), (9, 239, 1, 55, 1, 4, 728, 731, 57, 729, 730), (9, 242, 0, 120, 1, 0, 736, 738, 49, 737, 0), (9, 246, 0, 119, 2, 0, 739, 741, 49, 740, 0), (9, 250, 1, 44, 2, 2, 742, 745, 52, 743, 744), (9, 253, 1, 40, 2, 1, 758, 761, 53, 759, 760), (9, 256, 1, 39, 2, 1, 414, 417, 53, 415, 416)]
def cll_4 : List (Nat × Nat × Nat × Nat × Nat × Nat × Nat × Nat × Nat × Nat × Nat) := [(10, 1, 4, 0, 0, 0, 775, 73, 0, 72, 0), (10, 56, 0, 123, 3, 0, 841, 843, 59, 842, 0), (10, 60, 0, 130, 1, 0, 894, 896, 59, 895, 0), (10, 64, 0, 129, 1, 0, 897, 899, 59, 898, 0), (10, 68, 1, 131, 2, 10, 878, 881, 59, 880, 19), (10, 71, 1, 126, 2, 10, 882, 885, 59, 884, 20), (10, 74, 1, 127, 3, 10, 886, 889, 59, 888, 21), (10, 78, 1, 132, 2, 10, 890, 893, 59, 892, 22), (10, 81, 1, 133, 1, 10, 874, 877, 59, 876, 18), (10, 84, 1, 139, 3, 10, 925, 928, 59, 927, 28), (10, 87, 1, 140, 2, 10, 921, 924, 59, 923, 27), (10, 90, 1, 141, 1, 10, 917, 920, 59, 919, 26), (10, 94, 1, 143, 3, 10, 941, 944, 59, 943, 31), (10, 97, 1, 145, 3, 10, 953, 956, 59, 955, 34), (10, 101, 1, 135, 2, 10, 945, 948, 59, 947, 32), (10, 104, 1, 144, 2, 10, 937, 940, 59, 939, 30), (10, 107, 1, 147, 1, 10, 965, 968, 59, 967, 36), (10, 110, 1, 146, 2, 10, 949, 952, 59, 951, 33), (10, 120, 1, 149, 2, 10, 982, 985, 59, 984, 39), (10, 123, 1, 150, 2, 10, 986, 989, 59, 988, 40), (10, 126, 0, 124, 2, 0, 871, 873, 59, 872, 0), (10, 148, 0, 156, 2, 0, 860, 862, 59, 861, 0), (10, 151, 1, 155, 2, 10, 852, 855, 59, 854, 16), (10, 154, 1, 157, 3, 10, 856, 859, 59, 858, 17), (10, 158, 1, 158, 1, 10, 870, 851, 59, 849, 850), (10, 161, 1, 152, 2, 10, 900, 903, 59, 902, 23), (10, 164, 1, 125, 2, 10, 904, 907, 59, 906, 24), (10, 169, 1, 142, 1, 10, 913, 916, 59, 915, 25), (10, 173, 1, 128, 2, 10, 933, 936, 59, 935, 29), (10, 176, 1, 148, 1, 10, 961, 964, 59, 963, 35), (10, 179, 1, 134, 1, 10, 973, 976, 59, 975, 37), (10, 184, 1, 151, 2, 10, 978, 981, 59, 980, 38), (10, 187, 1, 164, 2, 10, 994, 997, 59, 996, 41), (10, 190, 1, 136, 1, 10, 1014, 1017, 59, 1016, 42), (10, 193, 1, 137, 1, 10, 1022, 1025, 59, 1024, 43), (10, 196, 1, 170, 1, 10, 1026, 1029, 59, 1028, 44), (10, 199, 1, 171, 1, 10, 1030, 1033, 59, 1032, 45), (10, 202, 1, 173, 2, 10, 1038, 1041, 59, 1040, 46), (10, 207, 0, 186, 1, 0, 1051, 1053, 64, 1052, 0), (10, 213, 1, 138, 4, 10, 1065, 1068, 59, 1067, 47)]
def cll_5 : List (Nat × Nat × Nat × Nat × Nat × Nat × Nat × Nat × Nat × Nat × Nat) := [(10, 217, 0, 188, 1, 0, 1069, 1071, 65, 1070, 0), (11, 122, 0, 185, 1, 0, 1054, 1056, 64, 1055, 0), (11, 134, 6, 0, 0, 0, 1057, 1059, 64, 1058, 0), (12, 59, 0, 187, 1, 0, 1072, 1074, 65, 1073, 0), (12, 74, 7, 0, 0, 0, 1075, 1077, 65, 1076, 0), (15, 9, 2, 90, 1, 0, 68, 70, 49, 69, 0), (15, 12, 2, 122, 1, 0, 772, 774, 59, 773, 0), (15, 13, 1, 91, 1, 9, 266, 269, 49, 267, 268), (15, 17, 1, 159, 1, 10, 866, 869, 59, 867, 868), (15, 18, 1, 92, 2, 9, 426, 429, 49, 427, 428), (15, 22, 1, 160, 2, 10, 908, 911, 59, 909, 910), (15, 23, 1, 93, 2, 9, 475, 478, 49, 476, 477), (15, 26, 1, 161, 2, 10, 929, 932, 59, 930, 931), (15, 27, 1, 94, 1, 9, 512, 515, 49, 513, 514), (15, 30, 1, 162, 1, 10, 957, 960, 59, 958, 959), (15, 31, 1, 95, 3, 9, 527, 530, 49, 528, 529), (15, 35, 1, 163, 3, 10, 969, 972, 59, 970, 971), (15, 36, 1, 96, 3, 9, 558, 561, 49, 559, 560), (15, 39, 1, 165, 3, 10, 990, 993, 59, 991, 992), (15, 40, 1, 97, 2, 9, 575, 578, 49, 576, 577), (15, 43, 1, 166, 2, 10, 998, 1001, 59, 999, 1000), (15, 44, 1, 98, 2, 9, 587, 590, 49, 588, 589), (15, 47, 1, 167, 2, 10, 1002, 1005, 59, 1003, 1004), (15, 48, 1, 99, 3, 9, 605, 608, 49, 606, 607), (15, 51, 1, 168, 3, 10, 1006, 1009, 59, 1007, 1008), (15, 52, 1, 100, 3, 9, 612, 615, 49, 613, 614), (15, 55, 1, 169, 3, 10, 1010, 1013, 59, 1011, 1012), (15, 56, 1, 101, 2, 9, 619, 622, 49, 620, 621), (15, 59, 1, 172, 2, 10, 1018, 1021, 59, 1019, 1020), (15, 60, 1, 102, 3, 9, 642, 645, 49, 643, 644), (15, 63, 1, 174, 3, 10, 1034, 1037, 59, 1035, 1036), (15, 64, 1, 103, 2, 9, 651, 654, 49, 652, 653), (15, 67, 1, 175, 2, 10, 1042, 1045, 59, 1043, 1044), (15, 68, 1, 104, 1, 9, 659, 662, 49, 660, 661), (15, 72, 1, 176, 1, 10, 1047, 1050, 59, 1048, 1049), (15, 73, 1, 105, 2, 9, 667, 670, 49, 668, 669), (15, 76, 1, 177, 2, 10, 1061, 1064, 59, 1062, 1063), (15, 77, 1, 106, 1, 9, 688, 691, 49, 689, 690), (15, 80, 1, 178, 1, 10, 1079, 1082, 59, 1080, 1081), (15, 81, 1, 107, 1, 9, 696, 699, 49, 697, 698)]
def cll_6 : List (Nat × Nat × Nat × Nat × Nat × Nat × Nat × Nat × Nat × Nat × Nat) := [(15, 84, 1, 179, 1, 10, 1083, 1086, 59, 1084, 1085), (15, 85, 1, 108, 2, 9, 700, 703, 49, 701, 702), (15, 88, 1, 180, 2, 10, 1087, 1090, 59, 1088, 1089), (15, 89, 1, 109, 2, 9, 724, 727, 49, 725, 726), (15, 92, 1, 181, 2, 10, 1091, 1094, 59, 1092, 1093), (15, 95, 1, 110, 2, 9, 732, 735, 49, 733, 734), (15, 99, 1, 153, 2, 10, 834, 837, 59, 835, 836), (15, 100, 1, 111, 1, 9, 746, 749, 49, 747, 748), (15, 103, 1, 154, 1, 10, 844, 847, 59, 845, 846), (15, 104, 1, 112, 1, 9, 750, 753, 49, 751, 752), (15, 107, 1, 158, 1, 10, 848, 851, 59, 849, 850), (15, 108, 1, 113, 1, 9, 754, 757, 49, 755, 756), (15, 111, 1, 182, 1, 10, 1095, 1098, 59, 1096, 1097), (15, 112, 1, 114, 2, 9, 762, 765, 49, 763, 764), (15, 115, 1, 183, 2, 10, 1099, 1102, 59, 1100, 1101), (15, 116, 1, 115, 2, 9, 766, 769, 49, 767, 768), (15, 119, 1, 184, 2, 10, 1103, 1106, 59, 1104, 1105)]
def cll : List (Nat × Nat × Nat × Nat × Nat × Nat × Nat × Nat × Nat × Nat × Nat) := cll_0 ++ cll_1 ++ cll_2 ++ cll_3 ++ cll_4 ++ cll_5 ++ cll_6
def nwl : List (Nat × Nat × Nat × Nat × Nat × Nat × Nat) := [(0, 9, 2, 1, 80, 81, 0), (0, 9, 6, 0, 80, 82, 51), (1, 9, 3, 1, 136, 137, 0), (1, 9, 0, 0, 136, 75, 50), (5, 9, 6, 0, 155, 82, 51), (9, 9, 0, 0, 74, 75, 50), (9, 19, 2, 0, 117, 118, 52), (9, 26, 1, 0, 130, 131, 53), (9, 9, 3, 1, 74, 137, 0), (9, 41, 5, 0, 149, 150, 54), (9, 48, 3, 0, 162, 163, 55), (9, 55, 7, 0, 181, 182, 56), (9, 62, 4, 0, 200, 201, 57), (9, 69, 8, 0, 213, 214, 58), (15, 7, 9, 0, 66, 67, 49), (15, 10, 10, 0, 770, 771, 59)]
def csl : List (Nat × Nat × Nat × Nat × Nat) := [(9, 259, 2, 4611686018427387904, 666), (10, 130, 1, 255, 838), (10, 132, 1, 33, 839), (10, 134, 1, 126, 840), (10, 142, 1, 97, 863), (10, 144, 1, 104, 864), (10, 146, 1, 65, 865), (10, 167, 1, 26, 912), (10, 182, 1, 7, 977), (10, 205, 1, 2, 1046), (11, 137, 1, 9221120237041090560, 1060), (12, 77, 3, 2143289344, 1078), (15, 93, 1, 4294967295, 1107)]
def fkl : List (List Bool) := [[false, false, true, false, false, false, true], [false, true, true], [false, true], [false, true, true, true], [true, true], [false], [false, true], [false, false, true, true], [false, false, true], [false, false, false, false, false, false, false, false, false, false, false, false], [false, false, false, false, true, false, false, false, false, false, false, false, false, false, true, true, false, true, true]]
def dfl : List (List Value) := [[.null, .null, .int 0, .null, .null, .null, .int 0], [.null, .int 0, .int 0], [.null, .int 0], [.null, .int 0, .int 0, .int 0], [.int 0, .int 0], [.null], [.null, .int 0], [.null, .null, .int 0, .int 0], [.null, .null, .int 0], [.null, .null, .null, .null, .null, .null, .null, .null, .null, .null, .null, .null], [.null, .null, .null, .null, .int 0, .null, .null, .null, .null, .null, .null, .null, .null, .null, .int 0, .int 0, .null, .int 0, .int 0]]
def arrI : Nat := 94
def arrZ : Nat := 161
end
section
def gw : List Cond := lw_tbl.filter goodWord
theorem gw_in {w : Cond} (h : w ∈ gw) : w ∈ lw_tbl := (List.mem_filter.mp h).1
theorem gw_good {w : Cond} (h : w ∈ gw) : (w.onTables && w.keeps) = true ∨ ∃ ty, w = .arrayClass ty := good_of_word (List.mem_filter.mp h).2
theorem gw_at {w : Cond} {i : Nat} (h : lw_tbl[i]? = some w) (hg : goodWord w = true) : w ∈ gw := List.mem_filter.mpr ⟨List.mem_of_getElem? h, hg⟩
/-- a word of the tables at its place, that keeps -/
def wAt (i : Nat) (w : Cond) : Bool := decide (lw_tbl[i]? = some w) && goodWord w
def wAtN (i : Nat) (w : Cond) : Bool := decide (lw_tbl[i]? = some w)
theorem wAt_in {i : Nat} {w : Cond} (h : wAt i w = true) : w ∈ gw := by
  simp only [wAt, Bool.and_eq_true, decide_eq_true_eq] at h
  exact gw_at h.1 h.2
theorem wAtN_in {i : Nat} {w : Cond} (h : wAtN i w = true) : w ∈ lw_tbl := by
  simp only [wAtN, decide_eq_true_eq] at h
  exact List.mem_of_getElem? h
def own (k : Nat) : String := nth "" ownS k
def cl0 : vw_C := ("", fun _ => ("", "", "", false), 0)
def vcl (k : Nat) : vw_C := nth cl0 vwCl k
def mi0 : MI := (⟨"", "", ""⟩, ⟨#[]⟩, 0, none, 0, 0, 0)
def mi (y : Nat) : MI := nth mi0 mit y
def mm0 : MM := (none, [])
def mm (y : Nat) : MM := nth mm0 prg y
def plainY (y : MethodName) (n : Nat) : Bool := decide (y.cls ≠ "java/lang/invoke/MethodHandle") && decide (y.cls ≠ "java/lang/invoke/VarHandle") && decide ((parseMethodDescriptor y.desc).map (fun d => d.parameters.length) = some n) && plainFor y
def cwOk (q : MI) : Prop := Cond.code q.1 q.2.1 q.2.2.1 q.2.2.2.1 ∈ gw ∧ plainY q.1 q.2.2.2.2.2.2 = true
def cwAll : List MI → Prop
  | [] => True
  | q :: l => cwOk q ∧ cwAll l
theorem cwAll_at : ∀ {l : List MI} {q : MI}, cwAll l → q ∈ l → cwOk q
  | [], _, _, h => absurd h List.not_mem_nil
  | _ :: l, q, hl, h => by
    rcases List.mem_cons.mp h with e | h
    · rw [e]; exact hl.1
    · exact cwAll_at hl.2 h
set_option maxRecDepth 100000 in
theorem cw_0 : cwOk (nth mi0 mitC 0) := ⟨gw_at (i := 78) rfl rfl, by decide +kernel⟩
set_option maxRecDepth 100000 in
theorem cw_1 : cwOk (nth mi0 mitC 1) := ⟨gw_at (i := 277) rfl rfl, by decide +kernel⟩
set_option maxRecDepth 100000 in
theorem cw_2 : cwOk (nth mi0 mitC 2) := ⟨gw_at (i := 421) rfl rfl, by decide +kernel⟩
set_option maxRecDepth 100000 in
theorem cw_3 : cwOk (nth mi0 mitC 3) := ⟨gw_at (i := 353) rfl rfl, by decide +kernel⟩
set_option maxRecDepth 100000 in
theorem cw_4 : cwOk (nth mi0 mitC 4) := ⟨gw_at (i := 323) rfl rfl, by decide +kernel⟩
set_option maxRecDepth 100000 in
theorem cw_5 : cwOk (nth mi0 mitC 5) := ⟨gw_at (i := 366) rfl rfl, by decide +kernel⟩
set_option maxRecDepth 100000 in
theorem cw_6 : cwOk (nth mi0 mitC 6) := ⟨gw_at (i := 373) rfl rfl, by decide +kernel⟩
set_option maxRecDepth 100000 in
theorem cw_7 : cwOk (nth mi0 mitC 7) := ⟨gw_at (i := 534) rfl rfl, by decide +kernel⟩
set_option maxRecDepth 100000 in
theorem cw_8 : cwOk (nth mi0 mitC 8) := ⟨gw_at (i := 358) rfl rfl, by decide +kernel⟩
set_option maxRecDepth 100000 in
theorem cw_9 : cwOk (nth mi0 mitC 9) := ⟨gw_at (i := 487) rfl rfl, by decide +kernel⟩
set_option maxRecDepth 100000 in
theorem cw_10 : cwOk (nth mi0 mitC 10) := ⟨gw_at (i := 552) rfl rfl, by decide +kernel⟩
set_option maxRecDepth 100000 in
theorem cw_11 : cwOk (nth mi0 mitC 11) := ⟨gw_at (i := 409) rfl rfl, by decide +kernel⟩
set_option maxRecDepth 100000 in
theorem cw_12 : cwOk (nth mi0 mitC 12) := ⟨gw_at (i := 401) rfl rfl, by decide +kernel⟩
set_option maxRecDepth 100000 in
theorem cw_13 : cwOk (nth mi0 mitC 13) := ⟨gw_at (i := 319) rfl rfl, by decide +kernel⟩
set_option maxRecDepth 100000 in
theorem cw_14 : cwOk (nth mi0 mitC 14) := ⟨gw_at (i := 511) rfl rfl, by decide +kernel⟩
set_option maxRecDepth 100000 in
theorem cw_15 : cwOk (nth mi0 mitC 15) := ⟨gw_at (i := 308) rfl rfl, by decide +kernel⟩
set_option maxRecDepth 100000 in
theorem cw_16 : cwOk (nth mi0 mitC 16) := ⟨gw_at (i := 628) rfl rfl, by decide +kernel⟩
set_option maxRecDepth 100000 in
theorem cw_17 : cwOk (nth mi0 mitC 17) := ⟨gw_at (i := 632) rfl rfl, by decide +kernel⟩
set_option maxRecDepth 100000 in
theorem cw_18 : cwOk (nth mi0 mitC 18) := ⟨gw_at (i := 636) rfl rfl, by decide +kernel⟩
set_option maxRecDepth 100000 in
theorem cw_19 : cwOk (nth mi0 mitC 19) := ⟨gw_at (i := 397) rfl rfl, by decide +kernel⟩
set_option maxRecDepth 100000 in
theorem cw_20 : cwOk (nth mi0 mitC 20) := ⟨gw_at (i := 285) rfl rfl, by decide +kernel⟩
set_option maxRecDepth 100000 in
theorem cw_21 : cwOk (nth mi0 mitC 21) := ⟨gw_at (i := 315) rfl rfl, by decide +kernel⟩
set_option maxRecDepth 100000 in
theorem cw_22 : cwOk (nth mi0 mitC 22) := ⟨gw_at (i := 330) rfl rfl, by decide +kernel⟩
set_option maxRecDepth 100000 in
theorem cw_23 : cwOk (nth mi0 mitC 23) := ⟨gw_at (i := 296) rfl rfl, by decide +kernel⟩
set_option maxRecDepth 100000 in
theorem cw_24 : cwOk (nth mi0 mitC 24) := ⟨gw_at (i := 547) rfl rfl, by decide +kernel⟩
set_option maxRecDepth 100000 in
theorem cw_25 : cwOk (nth mi0 mitC 25) := ⟨gw_at (i := 543) rfl rfl, by decide +kernel⟩
set_option maxRecDepth 100000 in
theorem cw_26 : cwOk (nth mi0 mitC 26) := ⟨gw_at (i := 565) rfl rfl, by decide +kernel⟩
set_option maxRecDepth 100000 in
theorem cw_27 : cwOk (nth mi0 mitC 27) := ⟨gw_at (i := 539) rfl rfl, by decide +kernel⟩
set_option maxRecDepth 100000 in
theorem cw_28 : cwOk (nth mi0 mitC 28) := ⟨gw_at (i := 556) rfl rfl, by decide +kernel⟩
set_option maxRecDepth 100000 in
theorem cw_29 : cwOk (nth mi0 mitC 29) := ⟨gw_at (i := 570) rfl rfl, by decide +kernel⟩
set_option maxRecDepth 100000 in
theorem cw_30 : cwOk (nth mi0 mitC 30) := ⟨gw_at (i := 582) rfl rfl, by decide +kernel⟩
set_option maxRecDepth 100000 in
theorem cw_31 : cwOk (nth mi0 mitC 31) := ⟨gw_at (i := 385) rfl rfl, by decide +kernel⟩
set_option maxRecDepth 100000 in
theorem cw_32 : cwOk (nth mi0 mitC 32) := ⟨gw_at (i := 433) rfl rfl, by decide +kernel⟩
set_option maxRecDepth 100000 in
theorem cw_33 : cwOk (nth mi0 mitC 33) := ⟨gw_at (i := 483) rfl rfl, by decide +kernel⟩
set_option maxRecDepth 100000 in
theorem cw_34 : cwOk (nth mi0 mitC 34) := ⟨gw_at (i := 495) rfl rfl, by decide +kernel⟩
set_option maxRecDepth 100000 in
theorem cw_35 : cwOk (nth mi0 mitC 35) := ⟨gw_at (i := 519) rfl rfl, by decide +kernel⟩
set_option maxRecDepth 100000 in
theorem cw_36 : cwOk (nth mi0 mitC 36) := ⟨gw_at (i := 523) rfl rfl, by decide +kernel⟩
set_option maxRecDepth 100000 in
theorem cw_37 : cwOk (nth mi0 mitC 37) := ⟨gw_at (i := 134) rfl rfl, by decide +kernel⟩
set_option maxRecDepth 100000 in
theorem cw_38 : cwOk (nth mi0 mitC 38) := ⟨gw_at (i := 641) rfl rfl, by decide +kernel⟩
set_option maxRecDepth 100000 in
theorem cw_39 : cwOk (nth mi0 mitC 39) := ⟨gw_at (i := 417) rfl rfl, by decide +kernel⟩
set_option maxRecDepth 100000 in
theorem cw_40 : cwOk (nth mi0 mitC 40) := ⟨gw_at (i := 761) rfl rfl, by decide +kernel⟩
set_option maxRecDepth 100000 in
theorem cw_41 : cwOk (nth mi0 mitC 41) := ⟨gw_at (i := 121) rfl rfl, by decide +kernel⟩
set_option maxRecDepth 100000 in
theorem cw_42 : cwOk (nth mi0 mitC 42) := ⟨gw_at (i := 334) rfl rfl, by decide +kernel⟩
set_option maxRecDepth 100000 in
theorem cw_43 : cwOk (nth mi0 mitC 43) := ⟨gw_at (i := 338) rfl rfl, by decide +kernel⟩
set_option maxRecDepth 100000 in
theorem cw_44 : cwOk (nth mi0 mitC 44) := ⟨gw_at (i := 745) rfl rfl, by decide +kernel⟩
set_option maxRecDepth 100000 in
theorem cw_45 : cwOk (nth mi0 mitC 45) := ⟨gw_at (i := 405) rfl rfl, by decide +kernel⟩
set_option maxRecDepth 100000 in
theorem cw_46 : cwOk (nth mi0 mitC 46) := ⟨gw_at (i := 166) rfl rfl, by decide +kernel⟩
set_option maxRecDepth 100000 in
theorem cw_47 : cwOk (nth mi0 mitC 47) := ⟨gw_at (i := 456) rfl rfl, by decide +kernel⟩
set_option maxRecDepth 100000 in
theorem cw_48 : cwOk (nth mi0 mitC 48) := ⟨gw_at (i := 461) rfl rfl, by decide +kernel⟩
set_option maxRecDepth 100000 in
theorem cw_49 : cwOk (nth mi0 mitC 49) := ⟨gw_at (i := 451) rfl rfl, by decide +kernel⟩
set_option maxRecDepth 100000 in
theorem cw_50 : cwOk (nth mi0 mitC 50) := ⟨gw_at (i := 437) rfl rfl, by decide +kernel⟩
set_option maxRecDepth 100000 in
theorem cw_51 : cwOk (nth mi0 mitC 51) := ⟨gw_at (i := 441) rfl rfl, by decide +kernel⟩
set_option maxRecDepth 100000 in
theorem cw_52 : cwOk (nth mi0 mitC 52) := ⟨gw_at (i := 446) rfl rfl, by decide +kernel⟩
set_option maxRecDepth 100000 in
theorem cw_53 : cwOk (nth mi0 mitC 53) := ⟨gw_at (i := 204) rfl rfl, by decide +kernel⟩
set_option maxRecDepth 100000 in
theorem cw_54 : cwOk (nth mi0 mitC 54) := ⟨gw_at (i := 604) rfl rfl, by decide +kernel⟩
set_option maxRecDepth 100000 in
theorem cw_55 : cwOk (nth mi0 mitC 55) := ⟨gw_at (i := 731) rfl rfl, by decide +kernel⟩
set_option maxRecDepth 100000 in
theorem cw_56 : cwOk (nth mi0 mitC 56) := ⟨gw_at (i := 594) rfl rfl, by decide +kernel⟩
set_option maxRecDepth 100000 in
theorem cw_57 : cwOk (nth mi0 mitC 57) := ⟨gw_at (i := 153) rfl rfl, by decide +kernel⟩
set_option maxRecDepth 100000 in
theorem cw_58 : cwOk (nth mi0 mitC 58) := ⟨gw_at (i := 273) rfl rfl, by decide +kernel⟩
set_option maxRecDepth 100000 in
theorem cw_59 : cwOk (nth mi0 mitC 59) := ⟨gw_at (i := 342) rfl rfl, by decide +kernel⟩
set_option maxRecDepth 100000 in
theorem cw_60 : cwOk (nth mi0 mitC 60) := ⟨gw_at (i := 346) rfl rfl, by decide +kernel⟩
set_option maxRecDepth 100000 in
theorem cw_61 : cwOk (nth mi0 mitC 61) := ⟨gw_at (i := 381) rfl rfl, by decide +kernel⟩
set_option maxRecDepth 100000 in
theorem cw_62 : cwOk (nth mi0 mitC 62) := ⟨gw_at (i := 362) rfl rfl, by decide +kernel⟩
set_option maxRecDepth 100000 in
theorem cw_63 : cwOk (nth mi0 mitC 63) := ⟨gw_at (i := 349) rfl rfl, by decide +kernel⟩
set_option maxRecDepth 100000 in
theorem cw_64 : cwOk (nth mi0 mitC 64) := ⟨gw_at (i := 85) rfl rfl, by decide +kernel⟩
set_option maxRecDepth 100000 in
theorem cw_65 : cwOk (nth mi0 mitC 65) := ⟨gw_at (i := 292) rfl rfl, by decide +kernel⟩
set_option maxRecDepth 100000 in
theorem cw_66 : cwOk (nth mi0 mitC 66) := ⟨gw_at (i := 304) rfl rfl, by decide +kernel⟩
set_option maxRecDepth 100000 in
theorem cw_67 : cwOk (nth mi0 mitC 67) := ⟨gw_at (i := 300) rfl rfl, by decide +kernel⟩
set_option maxRecDepth 100000 in
theorem cw_68 : cwOk (nth mi0 mitC 68) := ⟨gw_at (i := 474) rfl rfl, by decide +kernel⟩
set_option maxRecDepth 100000 in
theorem cw_69 : cwOk (nth mi0 mitC 69) := ⟨gw_at (i := 281) rfl rfl, by decide +kernel⟩
set_option maxRecDepth 100000 in
theorem cw_70 : cwOk (nth mi0 mitC 70) := ⟨gw_at (i := 389) rfl rfl, by decide +kernel⟩
set_option maxRecDepth 100000 in
theorem cw_71 : cwOk (nth mi0 mitC 71) := ⟨gw_at (i := 377) rfl rfl, by decide +kernel⟩
set_option maxRecDepth 100000 in
theorem cw_72 : cwOk (nth mi0 mitC 72) := ⟨gw_at (i := 574) rfl rfl, by decide +kernel⟩
set_option maxRecDepth 100000 in
theorem cw_73 : cwOk (nth mi0 mitC 73) := ⟨gw_at (i := 586) rfl rfl, by decide +kernel⟩
set_option maxRecDepth 100000 in
theorem cw_74 : cwOk (nth mi0 mitC 74) := ⟨gw_at (i := 503) rfl rfl, by decide +kernel⟩
set_option maxRecDepth 100000 in
theorem cw_75 : cwOk (nth mi0 mitC 75) := ⟨gw_at (i := 507) rfl rfl, by decide +kernel⟩
set_option maxRecDepth 100000 in
theorem cw_76 : cwOk (nth mi0 mitC 76) := ⟨gw_at (i := 469) rfl rfl, by decide +kernel⟩
set_option maxRecDepth 100000 in
theorem cw_77 : cwOk (nth mi0 mitC 77) := ⟨gw_at (i := 650) rfl rfl, by decide +kernel⟩
set_option maxRecDepth 100000 in
theorem cw_78 : cwOk (nth mi0 mitC 78) := ⟨gw_at (i := 465) rfl rfl, by decide +kernel⟩
set_option maxRecDepth 100000 in
theorem cw_79 : cwOk (nth mi0 mitC 79) := ⟨gw_at (i := 491) rfl rfl, by decide +kernel⟩
set_option maxRecDepth 100000 in
theorem cw_80 : cwOk (nth mi0 mitC 80) := ⟨gw_at (i := 499) rfl rfl, by decide +kernel⟩
set_option maxRecDepth 100000 in
theorem cw_81 : cwOk (nth mi0 mitC 81) := ⟨gw_at (i := 185) rfl rfl, by decide +kernel⟩
set_option maxRecDepth 100000 in
theorem cw_82 : cwOk (nth mi0 mitC 82) := ⟨gw_at (i := 695) rfl rfl, by decide +kernel⟩
set_option maxRecDepth 100000 in
theorem cw_83 : cwOk (nth mi0 mitC 83) := ⟨gw_at (i := 674) rfl rfl, by decide +kernel⟩
set_option maxRecDepth 100000 in
theorem cw_84 : cwOk (nth mi0 mitC 84) := ⟨gw_at (i := 678) rfl rfl, by decide +kernel⟩
set_option maxRecDepth 100000 in
theorem cw_85 : cwOk (nth mi0 mitC 85) := ⟨gw_at (i := 684) rfl rfl, by decide +kernel⟩
set_option maxRecDepth 100000 in
theorem cw_86 : cwOk (nth mi0 mitC 86) := ⟨gw_at (i := 217) rfl rfl, by decide +kernel⟩
set_option maxRecDepth 100000 in
theorem cw_87 : cwOk (nth mi0 mitC 87) := ⟨gw_at (i := 711) rfl rfl, by decide +kernel⟩
set_option maxRecDepth 100000 in
theorem cw_88 : cwOk (nth mi0 mitC 88) := ⟨gw_at (i := 719) rfl rfl, by decide +kernel⟩
set_option maxRecDepth 100000 in
theorem cw_89 : cwOk (nth mi0 mitC 89) := ⟨gw_at (i := 715) rfl rfl, by decide +kernel⟩
set_option maxRecDepth 100000 in
theorem cw_90 : cwOk (nth mi0 mitC 90) := ⟨gw_at (i := 70) rfl rfl, by decide +kernel⟩
set_option maxRecDepth 100000 in
theorem cw_91 : cwOk (nth mi0 mitC 91) := ⟨gw_at (i := 269) rfl rfl, by decide +kernel⟩
set_option maxRecDepth 100000 in
theorem cw_92 : cwOk (nth mi0 mitC 92) := ⟨gw_at (i := 429) rfl rfl, by decide +kernel⟩
set_option maxRecDepth 100000 in
theorem cw_93 : cwOk (nth mi0 mitC 93) := ⟨gw_at (i := 478) rfl rfl, by decide +kernel⟩
set_option maxRecDepth 100000 in
theorem cw_94 : cwOk (nth mi0 mitC 94) := ⟨gw_at (i := 515) rfl rfl, by decide +kernel⟩
set_option maxRecDepth 100000 in
theorem cw_95 : cwOk (nth mi0 mitC 95) := ⟨gw_at (i := 530) rfl rfl, by decide +kernel⟩
set_option maxRecDepth 100000 in
theorem cw_96 : cwOk (nth mi0 mitC 96) := ⟨gw_at (i := 561) rfl rfl, by decide +kernel⟩
set_option maxRecDepth 100000 in
theorem cw_97 : cwOk (nth mi0 mitC 97) := ⟨gw_at (i := 578) rfl rfl, by decide +kernel⟩
set_option maxRecDepth 100000 in
theorem cw_98 : cwOk (nth mi0 mitC 98) := ⟨gw_at (i := 590) rfl rfl, by decide +kernel⟩
set_option maxRecDepth 100000 in
theorem cw_99 : cwOk (nth mi0 mitC 99) := ⟨gw_at (i := 608) rfl rfl, by decide +kernel⟩
set_option maxRecDepth 100000 in
theorem cw_100 : cwOk (nth mi0 mitC 100) := ⟨gw_at (i := 615) rfl rfl, by decide +kernel⟩
set_option maxRecDepth 100000 in
theorem cw_101 : cwOk (nth mi0 mitC 101) := ⟨gw_at (i := 622) rfl rfl, by decide +kernel⟩
set_option maxRecDepth 100000 in
theorem cw_102 : cwOk (nth mi0 mitC 102) := ⟨gw_at (i := 645) rfl rfl, by decide +kernel⟩
set_option maxRecDepth 100000 in
theorem cw_103 : cwOk (nth mi0 mitC 103) := ⟨gw_at (i := 654) rfl rfl, by decide +kernel⟩
set_option maxRecDepth 100000 in
theorem cw_104 : cwOk (nth mi0 mitC 104) := ⟨gw_at (i := 662) rfl rfl, by decide +kernel⟩
set_option maxRecDepth 100000 in
theorem cw_105 : cwOk (nth mi0 mitC 105) := ⟨gw_at (i := 670) rfl rfl, by decide +kernel⟩
set_option maxRecDepth 100000 in
theorem cw_106 : cwOk (nth mi0 mitC 106) := ⟨gw_at (i := 691) rfl rfl, by decide +kernel⟩
set_option maxRecDepth 100000 in
theorem cw_107 : cwOk (nth mi0 mitC 107) := ⟨gw_at (i := 699) rfl rfl, by decide +kernel⟩
set_option maxRecDepth 100000 in
theorem cw_108 : cwOk (nth mi0 mitC 108) := ⟨gw_at (i := 703) rfl rfl, by decide +kernel⟩
set_option maxRecDepth 100000 in
theorem cw_109 : cwOk (nth mi0 mitC 109) := ⟨gw_at (i := 727) rfl rfl, by decide +kernel⟩
set_option maxRecDepth 100000 in
theorem cw_110 : cwOk (nth mi0 mitC 110) := ⟨gw_at (i := 735) rfl rfl, by decide +kernel⟩
set_option maxRecDepth 100000 in
theorem cw_111 : cwOk (nth mi0 mitC 111) := ⟨gw_at (i := 749) rfl rfl, by decide +kernel⟩
set_option maxRecDepth 100000 in
theorem cw_112 : cwOk (nth mi0 mitC 112) := ⟨gw_at (i := 753) rfl rfl, by decide +kernel⟩
set_option maxRecDepth 100000 in
theorem cw_113 : cwOk (nth mi0 mitC 113) := ⟨gw_at (i := 757) rfl rfl, by decide +kernel⟩
set_option maxRecDepth 100000 in
theorem cw_114 : cwOk (nth mi0 mitC 114) := ⟨gw_at (i := 765) rfl rfl, by decide +kernel⟩
set_option maxRecDepth 100000 in
theorem cw_115 : cwOk (nth mi0 mitC 115) := ⟨gw_at (i := 769) rfl rfl, by decide +kernel⟩
set_option maxRecDepth 100000 in
theorem cw_116 : cwOk (nth mi0 mitC 116) := ⟨gw_at (i := 413) rfl rfl, by decide +kernel⟩
set_option maxRecDepth 100000 in
theorem cw_117 : cwOk (nth mi0 mitC 117) := ⟨gw_at (i := 369) rfl rfl, by decide +kernel⟩
set_option maxRecDepth 100000 in
theorem cw_118 : cwOk (nth mi0 mitC 118) := ⟨gw_at (i := 707) rfl rfl, by decide +kernel⟩
set_option maxRecDepth 100000 in
theorem cw_119 : cwOk (nth mi0 mitC 119) := ⟨gw_at (i := 741) rfl rfl, by decide +kernel⟩
set_option maxRecDepth 100000 in
theorem cw_120 : cwOk (nth mi0 mitC 120) := ⟨gw_at (i := 738) rfl rfl, by decide +kernel⟩
set_option maxRecDepth 100000 in
theorem cw_121 : cwOk (nth mi0 mitC 121) := ⟨gw_at (i := 665) rfl rfl, by decide +kernel⟩
set_option maxRecDepth 100000 in
theorem cw_122 : cwOk (nth mi0 mitC 122) := ⟨gw_at (i := 774) rfl rfl, by decide +kernel⟩
set_option maxRecDepth 100000 in
theorem cw_123 : cwOk (nth mi0 mitC 123) := ⟨gw_at (i := 843) rfl rfl, by decide +kernel⟩
set_option maxRecDepth 100000 in
theorem cw_124 : cwOk (nth mi0 mitC 124) := ⟨gw_at (i := 873) rfl rfl, by decide +kernel⟩
set_option maxRecDepth 100000 in
theorem cw_125 : cwOk (nth mi0 mitC 125) := ⟨gw_at (i := 907) rfl rfl, by decide +kernel⟩
set_option maxRecDepth 100000 in
theorem cw_126 : cwOk (nth mi0 mitC 126) := ⟨gw_at (i := 885) rfl rfl, by decide +kernel⟩
set_option maxRecDepth 100000 in
theorem cw_127 : cwOk (nth mi0 mitC 127) := ⟨gw_at (i := 889) rfl rfl, by decide +kernel⟩
set_option maxRecDepth 100000 in
theorem cw_128 : cwOk (nth mi0 mitC 128) := ⟨gw_at (i := 936) rfl rfl, by decide +kernel⟩
set_option maxRecDepth 100000 in
theorem cw_129 : cwOk (nth mi0 mitC 129) := ⟨gw_at (i := 899) rfl rfl, by decide +kernel⟩
set_option maxRecDepth 100000 in
theorem cw_130 : cwOk (nth mi0 mitC 130) := ⟨gw_at (i := 896) rfl rfl, by decide +kernel⟩
set_option maxRecDepth 100000 in
theorem cw_131 : cwOk (nth mi0 mitC 131) := ⟨gw_at (i := 881) rfl rfl, by decide +kernel⟩
set_option maxRecDepth 100000 in
theorem cw_132 : cwOk (nth mi0 mitC 132) := ⟨gw_at (i := 893) rfl rfl, by decide +kernel⟩
set_option maxRecDepth 100000 in
theorem cw_133 : cwOk (nth mi0 mitC 133) := ⟨gw_at (i := 877) rfl rfl, by decide +kernel⟩
set_option maxRecDepth 100000 in
theorem cw_134 : cwOk (nth mi0 mitC 134) := ⟨gw_at (i := 976) rfl rfl, by decide +kernel⟩
set_option maxRecDepth 100000 in
theorem cw_135 : cwOk (nth mi0 mitC 135) := ⟨gw_at (i := 948) rfl rfl, by decide +kernel⟩
set_option maxRecDepth 100000 in
theorem cw_136 : cwOk (nth mi0 mitC 136) := ⟨gw_at (i := 1017) rfl rfl, by decide +kernel⟩
set_option maxRecDepth 100000 in
theorem cw_137 : cwOk (nth mi0 mitC 137) := ⟨gw_at (i := 1025) rfl rfl, by decide +kernel⟩
set_option maxRecDepth 100000 in
theorem cw_138 : cwOk (nth mi0 mitC 138) := ⟨gw_at (i := 1068) rfl rfl, by decide +kernel⟩
set_option maxRecDepth 100000 in
theorem cw_139 : cwOk (nth mi0 mitC 139) := ⟨gw_at (i := 928) rfl rfl, by decide +kernel⟩
set_option maxRecDepth 100000 in
theorem cw_140 : cwOk (nth mi0 mitC 140) := ⟨gw_at (i := 924) rfl rfl, by decide +kernel⟩
set_option maxRecDepth 100000 in
theorem cw_141 : cwOk (nth mi0 mitC 141) := ⟨gw_at (i := 920) rfl rfl, by decide +kernel⟩
set_option maxRecDepth 100000 in
theorem cw_142 : cwOk (nth mi0 mitC 142) := ⟨gw_at (i := 916) rfl rfl, by decide +kernel⟩
set_option maxRecDepth 100000 in
theorem cw_143 : cwOk (nth mi0 mitC 143) := ⟨gw_at (i := 944) rfl rfl, by decide +kernel⟩
set_option maxRecDepth 100000 in
theorem cw_144 : cwOk (nth mi0 mitC 144) := ⟨gw_at (i := 940) rfl rfl, by decide +kernel⟩
set_option maxRecDepth 100000 in
theorem cw_145 : cwOk (nth mi0 mitC 145) := ⟨gw_at (i := 956) rfl rfl, by decide +kernel⟩
set_option maxRecDepth 100000 in
theorem cw_146 : cwOk (nth mi0 mitC 146) := ⟨gw_at (i := 952) rfl rfl, by decide +kernel⟩
set_option maxRecDepth 100000 in
theorem cw_147 : cwOk (nth mi0 mitC 147) := ⟨gw_at (i := 968) rfl rfl, by decide +kernel⟩
set_option maxRecDepth 100000 in
theorem cw_148 : cwOk (nth mi0 mitC 148) := ⟨gw_at (i := 964) rfl rfl, by decide +kernel⟩
set_option maxRecDepth 100000 in
theorem cw_149 : cwOk (nth mi0 mitC 149) := ⟨gw_at (i := 985) rfl rfl, by decide +kernel⟩
set_option maxRecDepth 100000 in
theorem cw_150 : cwOk (nth mi0 mitC 150) := ⟨gw_at (i := 989) rfl rfl, by decide +kernel⟩
set_option maxRecDepth 100000 in
theorem cw_151 : cwOk (nth mi0 mitC 151) := ⟨gw_at (i := 981) rfl rfl, by decide +kernel⟩
set_option maxRecDepth 100000 in
theorem cw_152 : cwOk (nth mi0 mitC 152) := ⟨gw_at (i := 903) rfl rfl, by decide +kernel⟩
set_option maxRecDepth 100000 in
theorem cw_153 : cwOk (nth mi0 mitC 153) := ⟨gw_at (i := 837) rfl rfl, by decide +kernel⟩
set_option maxRecDepth 100000 in
theorem cw_154 : cwOk (nth mi0 mitC 154) := ⟨gw_at (i := 847) rfl rfl, by decide +kernel⟩
set_option maxRecDepth 100000 in
theorem cw_155 : cwOk (nth mi0 mitC 155) := ⟨gw_at (i := 855) rfl rfl, by decide +kernel⟩
set_option maxRecDepth 100000 in
theorem cw_156 : cwOk (nth mi0 mitC 156) := ⟨gw_at (i := 862) rfl rfl, by decide +kernel⟩
set_option maxRecDepth 100000 in
theorem cw_157 : cwOk (nth mi0 mitC 157) := ⟨gw_at (i := 859) rfl rfl, by decide +kernel⟩
set_option maxRecDepth 100000 in
theorem cw_158 : cwOk (nth mi0 mitC 158) := ⟨gw_at (i := 851) rfl rfl, by decide +kernel⟩
set_option maxRecDepth 100000 in
theorem cw_159 : cwOk (nth mi0 mitC 159) := ⟨gw_at (i := 869) rfl rfl, by decide +kernel⟩
set_option maxRecDepth 100000 in
theorem cw_160 : cwOk (nth mi0 mitC 160) := ⟨gw_at (i := 911) rfl rfl, by decide +kernel⟩
set_option maxRecDepth 100000 in
theorem cw_161 : cwOk (nth mi0 mitC 161) := ⟨gw_at (i := 932) rfl rfl, by decide +kernel⟩
set_option maxRecDepth 100000 in
theorem cw_162 : cwOk (nth mi0 mitC 162) := ⟨gw_at (i := 960) rfl rfl, by decide +kernel⟩
set_option maxRecDepth 100000 in
theorem cw_163 : cwOk (nth mi0 mitC 163) := ⟨gw_at (i := 972) rfl rfl, by decide +kernel⟩
set_option maxRecDepth 100000 in
theorem cw_164 : cwOk (nth mi0 mitC 164) := ⟨gw_at (i := 997) rfl rfl, by decide +kernel⟩
set_option maxRecDepth 100000 in
theorem cw_165 : cwOk (nth mi0 mitC 165) := ⟨gw_at (i := 993) rfl rfl, by decide +kernel⟩
set_option maxRecDepth 100000 in
theorem cw_166 : cwOk (nth mi0 mitC 166) := ⟨gw_at (i := 1001) rfl rfl, by decide +kernel⟩
set_option maxRecDepth 100000 in
theorem cw_167 : cwOk (nth mi0 mitC 167) := ⟨gw_at (i := 1005) rfl rfl, by decide +kernel⟩
set_option maxRecDepth 100000 in
theorem cw_168 : cwOk (nth mi0 mitC 168) := ⟨gw_at (i := 1009) rfl rfl, by decide +kernel⟩
set_option maxRecDepth 100000 in
theorem cw_169 : cwOk (nth mi0 mitC 169) := ⟨gw_at (i := 1013) rfl rfl, by decide +kernel⟩
set_option maxRecDepth 100000 in
theorem cw_170 : cwOk (nth mi0 mitC 170) := ⟨gw_at (i := 1029) rfl rfl, by decide +kernel⟩
set_option maxRecDepth 100000 in
theorem cw_171 : cwOk (nth mi0 mitC 171) := ⟨gw_at (i := 1033) rfl rfl, by decide +kernel⟩
set_option maxRecDepth 100000 in
theorem cw_172 : cwOk (nth mi0 mitC 172) := ⟨gw_at (i := 1021) rfl rfl, by decide +kernel⟩
set_option maxRecDepth 100000 in
theorem cw_173 : cwOk (nth mi0 mitC 173) := ⟨gw_at (i := 1041) rfl rfl, by decide +kernel⟩
set_option maxRecDepth 100000 in
theorem cw_174 : cwOk (nth mi0 mitC 174) := ⟨gw_at (i := 1037) rfl rfl, by decide +kernel⟩
set_option maxRecDepth 100000 in
theorem cw_175 : cwOk (nth mi0 mitC 175) := ⟨gw_at (i := 1045) rfl rfl, by decide +kernel⟩
set_option maxRecDepth 100000 in
theorem cw_176 : cwOk (nth mi0 mitC 176) := ⟨gw_at (i := 1050) rfl rfl, by decide +kernel⟩
set_option maxRecDepth 100000 in
theorem cw_177 : cwOk (nth mi0 mitC 177) := ⟨gw_at (i := 1064) rfl rfl, by decide +kernel⟩
set_option maxRecDepth 100000 in
theorem cw_178 : cwOk (nth mi0 mitC 178) := ⟨gw_at (i := 1082) rfl rfl, by decide +kernel⟩
set_option maxRecDepth 100000 in
theorem cw_179 : cwOk (nth mi0 mitC 179) := ⟨gw_at (i := 1086) rfl rfl, by decide +kernel⟩
set_option maxRecDepth 100000 in
theorem cw_180 : cwOk (nth mi0 mitC 180) := ⟨gw_at (i := 1090) rfl rfl, by decide +kernel⟩
set_option maxRecDepth 100000 in
theorem cw_181 : cwOk (nth mi0 mitC 181) := ⟨gw_at (i := 1094) rfl rfl, by decide +kernel⟩
set_option maxRecDepth 100000 in
theorem cw_182 : cwOk (nth mi0 mitC 182) := ⟨gw_at (i := 1098) rfl rfl, by decide +kernel⟩
set_option maxRecDepth 100000 in
theorem cw_183 : cwOk (nth mi0 mitC 183) := ⟨gw_at (i := 1102) rfl rfl, by decide +kernel⟩
set_option maxRecDepth 100000 in
theorem cw_184 : cwOk (nth mi0 mitC 184) := ⟨gw_at (i := 1106) rfl rfl, by decide +kernel⟩
set_option maxRecDepth 100000 in
theorem cw_185 : cwOk (nth mi0 mitC 185) := ⟨gw_at (i := 1056) rfl rfl, by decide +kernel⟩
set_option maxRecDepth 100000 in
theorem cw_186 : cwOk (nth mi0 mitC 186) := ⟨gw_at (i := 1053) rfl rfl, by decide +kernel⟩
set_option maxRecDepth 100000 in
theorem cw_187 : cwOk (nth mi0 mitC 187) := ⟨gw_at (i := 1074) rfl rfl, by decide +kernel⟩
set_option maxRecDepth 100000 in
theorem cw_188 : cwOk (nth mi0 mitC 188) := ⟨gw_at (i := 1071) rfl rfl, by decide +kernel⟩
set_option maxRecDepth 100000 in
theorem cw_189 : cwOk (nth mi0 mitC 189) := ⟨gw_at (i := 326) rfl rfl, by decide +kernel⟩
set_option maxRecDepth 100000 in
theorem cw_190 : cwOk (nth mi0 mitC 190) := ⟨gw_at (i := 311) rfl rfl, by decide +kernel⟩
set_option maxRecDepth 100000 in
theorem cw_191 : cwOk (nth mi0 mitC 191) := ⟨gw_at (i := 288) rfl rfl, by decide +kernel⟩
set_option maxRecDepth 100000 in
theorem cws : cwAll mitC := ⟨cw_0, cw_1, cw_2, cw_3, cw_4, cw_5, cw_6, cw_7, cw_8, cw_9, cw_10, cw_11, cw_12, cw_13, cw_14, cw_15, cw_16, cw_17, cw_18, cw_19, cw_20, cw_21, cw_22, cw_23, cw_24, cw_25, cw_26, cw_27, cw_28, cw_29, cw_30, cw_31, cw_32, cw_33, cw_34, cw_35, cw_36, cw_37, cw_38, cw_39, cw_40, cw_41, cw_42, cw_43, cw_44, cw_45, cw_46, cw_47, cw_48, cw_49, cw_50, cw_51, cw_52, cw_53, cw_54, cw_55, cw_56, cw_57, cw_58, cw_59, cw_60, cw_61, cw_62, cw_63, cw_64, cw_65, cw_66, cw_67, cw_68, cw_69, cw_70, cw_71, cw_72, cw_73, cw_74, cw_75, cw_76, cw_77, cw_78, cw_79, cw_80, cw_81, cw_82, cw_83, cw_84, cw_85, cw_86, cw_87, cw_88, cw_89, cw_90, cw_91, cw_92, cw_93, cw_94, cw_95, cw_96, cw_97, cw_98, cw_99, cw_100, cw_101, cw_102, cw_103, cw_104, cw_105, cw_106, cw_107, cw_108, cw_109, cw_110, cw_111, cw_112, cw_113, cw_114, cw_115, cw_116, cw_117, cw_118, cw_119, cw_120, cw_121, cw_122, cw_123, cw_124, cw_125, cw_126, cw_127, cw_128, cw_129, cw_130, cw_131, cw_132, cw_133, cw_134, cw_135, cw_136, cw_137, cw_138, cw_139, cw_140, cw_141, cw_142, cw_143, cw_144, cw_145, cw_146, cw_147, cw_148, cw_149, cw_150, cw_151, cw_152, cw_153, cw_154, cw_155, cw_156, cw_157, cw_158, cw_159, cw_160, cw_161, cw_162, cw_163, cw_164, cw_165, cw_166, cw_167, cw_168, cw_169, cw_170, cw_171, cw_172, cw_173, cw_174, cw_175, cw_176, cw_177, cw_178, cw_179, cw_180, cw_181, cw_182, cw_183, cw_184, cw_185, cw_186, cw_187, cw_188, cw_189, cw_190, cw_191, trivial⟩
def fdOk (t : Nat × Nat × Nat × Nat × Nat) : Bool :=
  wAt (t.2.2.2.2 + 48) (.fieldLink (own t.1) t.2.1 ((vcl t.2.2.1).2.1 t.2.2.2.1).1 ((vcl t.2.2.1).2.1 t.2.2.2.1).2.1 ((vcl t.2.2.1).2.1 t.2.2.2.1).2.2.1) && decide (t.2.2.2.1 < (vcl t.2.2.1).2.2) && decide (t.2.2.1 < 11)
theorem fdl_ok : fdl.all fdOk = true := by decide +kernel
def clOk (t : Nat × Nat × Nat × Nat × Nat × Nat × Nat × Nat × Nat × Nat × Nat) : Bool :=
  match t with
  | (o, ix, kd, y, n, rc, pa, pb, pc, pd, pe) =>
    match kd with
    | 0 => wAt pa (.methodLink (own o) ix (mi y).1) && wAt pc (.initialized (mi y).1.cls) && wAt pd (.static (mi y).1) && decide (n = (mi y).2.2.2.2.2.2) && decide (y < 192)
    | 1 => wAt pa (.methodLink (own o) ix (mi y).1) && wAt pc (.initialized (mi y).1.cls) && wAt pd (.instanceMethod (mi y).1) && wAt pe (.selects (mi y).1.cls (mi y).1 (mi y).1) && decide (n = (mi y).2.2.2.2.2.2 + 1) && decide ((vcl rc).1 = (mi y).1.cls) && decide (rc < 11) && decide (y < 192)
    | 2 => wAt pa (.methodLink (own o) ix (mi y).1) && wAt pc (.initialized (mi y).1.cls) && wAt pd (.instanceMethod (mi y).1) && decide (n = (mi y).2.2.2.2.2.2 + 1) && decide ((mi y).1.name = "<init>") && decide ((mi y).2.2.2.1 = none) && decide (y < 192)
    | 3 => wAtN pa (.methodLinkNest (own o) ix (mi y).1 "PairGrammars") && wAt pc (.initialized (mi y).1.cls) && wAt pd (.instanceMethod (mi y).1) && decide (n = (mi y).2.2.2.2.2.2 + 1) && decide ((mi y).1.name = "<init>") && decide ((mi y).2.2.2.1 = none) && decide (y < 192)
    | 4 => wAt pa (.methodLink (own o) ix objectInit) && wAt pb (.code objectInit ⟨#[0xb1]⟩ 1 none) && wAt pd (.instanceMethod objectInit)
    | 5 => wAt pa (.methodLink (own o) ix arraycopyName) && wAt pb (.native arraycopyName) && wAt pc (.initialized "java/lang/System") && wAt pd (.static arraycopyName)
    | 6 => wAt pa (.methodLink (own o) ix ⟨"java/lang/Double", "doubleToRawLongBits", "(D)J"⟩) && wAt pb (.native ⟨"java/lang/Double", "doubleToRawLongBits", "(D)J"⟩) && wAt pc (.initialized "java/lang/Double") && wAt pd (.static ⟨"java/lang/Double", "doubleToRawLongBits", "(D)J"⟩)
    | 7 => wAt pa (.methodLink (own o) ix ⟨"java/lang/Float", "floatToRawIntBits", "(F)I"⟩) && wAt pb (.native ⟨"java/lang/Float", "floatToRawIntBits", "(F)I"⟩) && wAt pc (.initialized "java/lang/Float") && wAt pd (.static ⟨"java/lang/Float", "floatToRawIntBits", "(F)I"⟩)
    | 8 => wAtN pa (.methodLinkNest (own o) ix (mi y).1 "PairGrammars") && wAt pc (.initialized (mi y).1.cls) && wAt pd (.static (mi y).1) && decide (n = (mi y).2.2.2.2.2.2) && decide (y < 192)
    | _ => false
theorem cll_ok_0 : cll_0.all clOk = true := by decide +kernel
theorem cll_ok_1 : cll_1.all clOk = true := by decide +kernel
theorem cll_ok_2 : cll_2.all clOk = true := by decide +kernel
theorem cll_ok_3 : cll_3.all clOk = true := by decide +kernel
theorem cll_ok_4 : cll_4.all clOk = true := by decide +kernel
theorem cll_ok_5 : cll_5.all clOk = true := by decide +kernel
theorem cll_ok_6 : cll_6.all clOk = true := by decide +kernel
theorem cll_ok : cll.all clOk = true := by
  simp only [cll, List.all_append, cll_ok_0, cll_ok_1, cll_ok_2, cll_ok_3, cll_ok_4, cll_ok_5, cll_ok_6, Bool.and_self]
def nwOk (t : Nat × Nat × Nat × Nat × Nat × Nat × Nat) : Bool :=
  match t with
  | (o, ix, c, kd, pa, pb, pc) =>
    match kd with
    | 0 => wAt pa (.classLink (own o) ix (vcl c).1) && wAt pb (.instantiable (vcl c).1 (vcl c).2.2) && wAt pc (.initialized (vcl c).1) && decide (c < 11)
    | 1 => wAt pa (.classLink (own o) ix (vcl (match c with | 2 => 6 | _ => 0)).1) && wAtN pb (.arrayOver (.object (vcl (match c with | 2 => 6 | _ => 0)).1)) && decide (c = 2 ∨ c = 3)
    | _ => false
theorem nwl_ok : nwl.all nwOk = true := by decide +kernel
def csOk (t : Nat × Nat × Nat × Nat × Nat) : Bool :=
  match t with
  | (o, ix, kd, v, pa) =>
    match kd with
    | 1 => wAt pa (.constantLong (own o) ix (Int64.ofNat v))
    | 2 => wAt pa (.constantDouble (own o) ix (UInt64.ofNat v))
    | 3 => wAt pa (.constant (own o) ix (Int32.ofNat v))
    | _ => false
theorem csl_ok : csl.all csOk = true := by decide +kernel
theorem arrI_ok : wAt arrI (.arrayClass .int) = true := by decide +kernel
theorem arrZ_ok : wAt arrZ (.arrayClass .boolean) = true := by decide +kernel
/-- the class tables: words, names apart, types -/
def clsOk (k : Nat) : Bool :=
  match vcl k with
  | (C, T, N) => (u_ws C T N).all (fun w => goodWord w) && (List.range N).all (fun a => (List.range N).all (fun b => a == b || decide ((T a).2.1 ≠ (T b).2.1))) &&
    (List.range N).all (fun a => match parseFieldDescriptor (T a).2.2.1 with
      | some .int => nth false (nth [] fkl k) a
      | some (.object _) => !(nth true (nth [] fkl k) a)
      | some (.array _) => !(nth true (nth [] fkl k) a)
      | _ => false) && decide ((nth [] fkl k).length = N) && decide ((nth [] dfl k).length = N) && decide (nth [] dfl k = (nth [] fkl k).map (fun b => if b = true then Value.int 0 else Value.null))
theorem cls_ok : (List.range 11).all clsOk = true := by decide +kernel
end
section
/-! A small machine over relative addresses: cell 0 is the script; objects and arrays behind it in the order of their making. -/
def fe : List EN → Nat → Option (Instr × Nat × Nat × Nat × Nat × Nat × Nat)
  | [], _ => none
  | e :: r, pc => match Nat.beq e.1 pc with
    | true => some e.2
    | false => fe r pc
def lget : LV → Nat → Option Value
  | [], _ => none
  | q :: r, k => match Nat.beq q.1 k with
    | true => some q.2
    | false => lget r k
def cat2 : Value → Bool
  | .long _ => true
  | .double _ => true
  | _ => false
def ldel1 (i : Nat) : LV → LV
  | [] => []
  | q :: r => match Nat.beq q.1 i || (Nat.beq (q.1 + 1) i && cat2 q.2) with
    | true => ldel1 i r
    | false => q :: ldel1 i r
def ldel2 (i : Nat) : LV → LV
  | [] => []
  | q :: r => match Nat.beq q.1 i || (Nat.beq q.1 (i + 1) || (Nat.beq (q.1 + 1) i && cat2 q.2)) with
    | true => ldel2 i r
    | false => q :: ldel2 i r
def lst1 (i : Nat) (v : Value) (lv : LV) : LV := (i, v) :: ldel1 i lv
def lst2 (i : Nat) (v : Value) (lv : LV) : LV := (i, v) :: ldel2 i lv
def wR : Option Value → Option Value
  | some (.ref a) => some (.ref a)
  | _ => none
def wI : Option Value → Option Value
  | some (.int a) => some (.int a)
  | _ => none
def wL : Option Value → Option Value
  | some (.long a) => some (.long a)
  | _ => none
def wF : Option Value → Option Value
  | some (.float a) => some (.float a)
  | _ => none
def wD : Option Value → Option Value
  | some (.double a) => some (.double a)
  | _ => none
/-- loads -/
def gA (i : Instr) (lv : LV) : Option Value := match i with
  | .aload_n k => wR (lget lv k.val)
  | .aload k => wR (lget lv k)
  | .iload_n k => wI (lget lv k.val)
  | .iload k => wI (lget lv k)
  | .lload_n k => wL (lget lv k.val)
  | .lload k => wL (lget lv k)
  | .fload_n k => wF (lget lv k.val)
  | .dload_n k => wD (lget lv k.val)
  | .dload k => wD (lget lv k)
  | _ => none
/-- stores -/
def gB (i : Instr) (lv : LV) (sk : List Value) : Option (LV × List Value) := match i with
  | .istore_n k => match sk with
    | .int x :: r => some (lst1 k.val (.int x) lv, r)
    | _ => none
  | .istore k => match sk with
    | .int x :: r => some (lst1 k (.int x) lv, r)
    | _ => none
  | .lstore k => match sk with
    | .long x :: r => some (lst2 k (.long x) lv, r)
    | _ => none
  | .dstore k => match sk with
    | .double x :: r => some (lst2 k (.double x) lv, r)
    | _ => none
  | .fstore_n k => match sk with
    | .float x :: r => some (lst1 k.val (.float x) lv, r)
    | _ => none
  | .astore_n k => match sk with
    | .ref x :: r => some (lst1 k.val (.ref x) lv, r)
    | _ => none
  | .astore k => match sk with
    | .ref x :: r => some (lst1 k (.ref x) lv, r)
    | _ => none
  | .iinc k n => match lget lv k with
    | some (.int x) => some (lst1 k (.int (x + Int32.ofInt n)) lv, sk)
    | _ => none
  | _ => none
/-- constants, the stack -/
def gC (i : Instr) (r1 r2 : Nat) (sk : List Value) : Option (List Value) := match i with
  | .iconst n => some (.int (Int32.ofInt n) :: sk)
  | .bipush n => some (.int (Int32.ofInt n) :: sk)
  | .sipush n => some (.int (Int32.ofInt n) :: sk)
  | .lconst n => some (.long (Int64.ofNat n.val) :: sk)
  | .ldc2_w _ => match r1 with
    | 1 => some (.long (Int64.ofNat r2) :: sk)
    | 2 => some (.double (UInt64.ofNat r2) :: sk)
    | _ => none
  | .ldc _ => match r1 with
    | 3 => some (.int (Int32.ofNat r2) :: sk)
    | _ => none
  | .dconst n => match n.val with
    | 0 => some (.double FP.dconst0 :: sk)
    | _ => some (.double FP.dconst1 :: sk)
  | .dup => match sk with
    | v :: r => match cat2 v with
      | false => some (v :: v :: r)
      | true => none
    | _ => none
  | .dup2 => match sk with
    | v :: w :: r => match cat2 v || cat2 w with
      | false => some (v :: w :: v :: w :: r)
      | true => none
    | _ => none
  | .pop => match sk with
    | v :: r => match cat2 v with
      | false => some r
      | true => none
    | _ => none
  | _ => none
def jI (f : Int32 → Int32 → Int32) : List Value → Option (List Value)
  | .int y :: .int x :: r => some (.int (f x y) :: r)
  | _ => none
def jL (f : Int64 → Int64 → Int64) : List Value → Option (List Value)
  | .long y :: .long x :: r => some (.long (f x y) :: r)
  | _ => none
def jS (f : Int64 → Int32 → Int64) : List Value → Option (List Value)
  | .int y :: .long x :: r => some (.long (f x y) :: r)
  | _ => none
/-- whole numbers -/
def gD (i : Instr) (sk : List Value) : Option (List Value) := match i with
  | .iadd => jI (fun x y => x + y) sk
  | .isub => jI (fun x y => x - y) sk
  | .imul => jI (fun x y => x * y) sk
  | .iand => jI (fun x y => x &&& y) sk
  | .irem => match sk with
    | .int y :: .int x :: r => match decide (y = 0) with
      | false => some (.int (x - x / y * y) :: r)
      | true => none
    | _ => none
  | .ladd => jL (fun x y => x + y) sk
  | .lsub => jL (fun x y => x - y) sk
  | .land => jL (fun x y => x &&& y) sk
  | .lor => jL (fun x y => x ||| y) sk
  | .lshl => jS (fun x y => x <<< (y.toInt64 &&& 63)) sk
  | .lushr => jS (fun x y => (x.toUInt64 >>> (y.toInt64.toUInt64 &&& Int64.toUInt64 63)).toInt64) sk
  | .lcmp => match sk with
    | .long y :: .long x :: r => some (.int (lg_cmp x y) :: r)
    | _ => none
  | .i2l => match sk with
    | .int x :: r => some (.long x.toInt64 :: r)
    | _ => none
  | .l2i => match sk with
    | .long x :: r => some (.int x.toInt32 :: r)
    | _ => none
  | _ => none
/-- floats and doubles -/
def gE (i : Instr) (sk : List Value) : Option (List Value) := match i with
  | .i2d => match sk with
    | .int x :: r => some (.double (FP.i2d x) :: r)
    | _ => none
  | .i2f => match sk with
    | .int x :: r => some (.float (FP.i2f x) :: r)
    | _ => none
  | .l2d => match sk with
    | .long x :: r => some (.double (FP.l2d x) :: r)
    | _ => none
  | .d2l => match sk with
    | .double x :: r => some (.long (FP.d2l x) :: r)
    | _ => none
  | .f2d => match sk with
    | .float x :: r => match decide (FP.f2d x &&& 0x7fffffffffffffff ≤ 0x7ff0000000000000) with
      | true => some (.double (FP.f2d x) :: r)
      | false => none
    | _ => none
  | .ddiv => match sk with
    | .double y :: .double x :: r => match decide (FP.ddiv x y &&& 0x7fffffffffffffff ≤ 0x7ff0000000000000) with
      | true => some (.double (FP.ddiv x y) :: r)
      | false => none
    | _ => none
  | .dmul => match sk with
    | .double y :: .double x :: r => match decide (FP.dmul x y &&& 0x7fffffffffffffff ≤ 0x7ff0000000000000) with
      | true => some (.double (FP.dmul x y) :: r)
      | false => none
    | _ => none
  | .fdiv => match sk with
    | .float y :: .float x :: r => match decide (FP.fdiv x y &&& 0x7fffffff ≤ 0x7f800000) with
      | true => some (.float (FP.fdiv x y) :: r)
      | false => none
    | _ => none
  | .dcmp op => match sk with
    | .double y :: .double x :: r => some (.int (Op.cmpValue (FP.dcmp x y) op) :: r)
    | _ => none
  | .fcmp op => match sk with
    | .float y :: .float x :: r => some (.int (Op.cmpValue (FP.fcmp x y) op) :: r)
    | _ => none
  | _ => none
def kI (f : Int32 → Int32 → Bool) : List Value → Option (Bool × List Value)
  | .int y :: .int x :: r => some (f x y, r)
  | _ => none
def k0 (f : Int32 → Bool) : List Value → Option (Bool × List Value)
  | .int x :: r => some (f x, r)
  | _ => none
/-- branches: whether it is taken, and the stack then -/
def gG (i : Instr) (sk : List Value) : Option (Bool × List Value) := match i with
  | .goto _ => some (true, sk)
  | .ifCond .eq _ => k0 (fun x => decide (x = 0)) sk
  | .ifCond .ne _ => k0 (fun x => decide (¬ x = 0)) sk
  | .ifCond .lt _ => k0 (fun x => decide (x < 0)) sk
  | .ifCond .ge _ => k0 (fun x => decide (0 ≤ x)) sk
  | .ifCond .gt _ => k0 (fun x => decide (0 < x)) sk
  | .ifCond .le _ => k0 (fun x => decide (x ≤ 0)) sk
  | .if_icmp .eq _ => kI (fun x y => decide (x = y)) sk
  | .if_icmp .ne _ => kI (fun x y => decide (¬ x = y)) sk
  | .if_icmp .lt _ => kI (fun x y => decide (x < y)) sk
  | .if_icmp .ge _ => kI (fun x y => decide (y ≤ x)) sk
  | .if_icmp .gt _ => kI (fun x y => decide (y < x)) sk
  | .if_icmp .le _ => kI (fun x y => decide (x ≤ y)) sk
  | _ => none
def jTo (pc : Nat) (off : Int) (r : List Value) : Option (Nat × List Value) := match decide (0 ≤ (pc : Int) + off) with
  | true => some (((pc : Int) + off).toNat, r)
  | false => none
/-- switches -/
def gS (i : Instr) (pc : Nat) (sk : List Value) : Option (Nat × List Value) := match i with
  | .tableswitch d lo hi offs => match sk with
    | .int x :: r => match decide (x.toInt < lo ∨ hi < x.toInt) with
      | true => jTo pc d r
      | false => match offs[(x.toInt - lo).toNat]? with
        | some off => jTo pc off r
        | none => none
    | _ => none
  | .lookupswitch d ps => match sk with
    | .int x :: r => jTo pc (Op.lookupswitch.offset ps.toList d x.toInt) r
    | _ => none
  | _ => none
def okV (b : Bool) (v : Value) : Bool := match b, v with
  | true, .int _ => true
  | false, .ref _ => true
  | _, _ => false
abbrev aI (n : Nat) (f : Nat → Int32) : PC := .inl (0, n, .inl f)
abbrev aZ (n : Nat) (f : Nat → Int32) : PC := .inl (1, n, .inl f)
abbrev aQ (t n : Nat) (f : Nat → Option Nat) : PC := .inl (t, n, .inr (.inr (.inr (.inr f))))
abbrev ob (c : Nat) (fs : List Value) : PC := .inr (c, fs)
/-- fields -/
def gF (i : Instr) (r1 r2 : Nat) (sk : List Value) (M : PM) : Option (List Value × PM) := match i with
  | .getfield _ => match sk with
    | .ref a :: r => match M[a]? with
      | some (.inr (c, fs)) => match Nat.beq c r1 with
        | true => match fs[r2]? with
          | some v => some (v :: r, M)
          | none => none
        | false => none
      | _ => none
    | _ => none
  | .putfield _ => match sk with
    | v :: .ref a :: r => match M[a]? with
      | some (.inr (c, fs)) => match Nat.beq c r1 && (Nat.blt r2 fs.length && okV (nth false (nth [] fkl r1) r2) v) with
        | true => some (r, M.set a (.inr (c, fs.set r2 v)))
        | false => none
      | _ => none
    | _ => none
  | .new _ => some (.ref M.length :: sk, M ++ [.inr (r1, nth [] dfl r1)])
  | _ => none
def inA (x : Int32) (n : Nat) : Bool := decide (¬ (x < 0 ∨ n ≤ x.toNatClampNeg))
/-- arrays -/
def gM (i : Instr) (r1 : Nat) (sk : List Value) (M : PM) : Option (List Value × PM) := match i with
  | .iaload => match sk with
    | .int x :: .ref a :: r => match M[a]? with
      | some (.inl (0, n, .inl f)) => match inA x n with
        | true => some (.int (f x.toNatClampNeg) :: r, M)
        | false => none
      | _ => none
    | _ => none
  | .baload => match sk with
    | .int x :: .ref a :: r => match M[a]? with
      | some (.inl (1, n, .inl f)) => match inA x n with
        | true => some (.int (f x.toNatClampNeg) :: r, M)
        | false => none
      | _ => none
    | _ => none
  | .aaload => match sk with
    | .int x :: .ref a :: r => match M[a]? with
      | some (.inl (t, n, .inr (.inr (.inr (.inr f))))) => match (Nat.beq t 2 || Nat.beq t 3) && inA x n with
        | true => match f x.toNatClampNeg with
          | some b => some (.ref b :: r, M)
          | none => none
        | false => none
      | _ => none
    | _ => none
  | .iastore => match sk with
    | .int v :: .int x :: .ref a :: r => match M[a]? with
      | some (.inl (0, n, .inl f)) => match inA x n && Nat.blt 0 a with
        | true => some (r, M.set a (.inl (0, n, .inl (upd f x.toNatClampNeg v))))
        | false => none
      | _ => none
    | _ => none
  | .bastore => match sk with
    | .int v :: .int x :: .ref a :: r => match M[a]? with
      | some (.inl (1, n, .inl f)) => match inA x n && (decide (v = 0) || decide (v = 1)) with
        | true => some (r, M.set a (.inl (1, n, .inl (upd f x.toNatClampNeg v))))
        | false => none
      | _ => none
    | _ => none
  | .aastore => match sk with
    | .ref v :: .int x :: .ref a :: r => match M[a]?, M[v]? with
      | some (.inl (t, n, .inr (.inr (.inr (.inr f))))), some (.inr (c, _)) => match ((Nat.beq t 2 && Nat.beq c 6) || (Nat.beq t 3 && Nat.beq c 0)) && inA x n with
        | true => some (r, M.set a (.inl (t, n, .inr (.inr (.inr (.inr (va_up f x.toNatClampNeg (some v))))))))
        | false => none
      | _, _ => none
    | _ => none
  | .arraylength => match sk with
    | .ref a :: r => match M[a]? with
      | some (.inl (t, n, _)) => match Nat.blt t 4 with
        | true => some (.int (Int32.ofInt n) :: r, M)
        | false => none
      | _ => none
    | _ => none
  | .newarray t => match sk with
    | .int x :: r => match decide (x < 0) || Nat.blt 134217728 x.toNatClampNeg with
      | true => none
      | false => match t with
        | .int => some (.ref M.length :: r, M ++ [.inl (0, x.toNatClampNeg, .inl (fun _ => 0))])
        | .boolean => some (.ref M.length :: r, M ++ [.inl (1, x.toNatClampNeg, .inl (fun _ => 0))])
        | _ => none
    | _ => none
  | .anewarray _ => match sk with
    | .int x :: r => match decide (x < 0) || Nat.blt 134217728 x.toNatClampNeg with
      | true => none
      | false => some (.ref M.length :: r, M ++ [.inl (r1, x.toNatClampNeg, .inr (.inr (.inr (.inr (fun _ => none)))))])
    | _ => none
  | _ => none
def catS (sk : List Value) : Nat := (sk.map fun v => v.category).sum
/-- calls that the machine makes by itself -/
def gN (i : Instr) (kd : Nat) (sk : List Value) (M : PM) : Option (List Value × PM) := match i with
  | .invokespecial _ => match kd with
    | 4 => match sk with
      | .ref _ :: r => match Nat.ble (catS r) 8 with
        | true => some (r, M)
        | false => none
      | _ => none
    | _ => none
  | .invokestatic _ => match kd with
    | 5 => match sk with
      | .int n :: .int dp :: .ref a :: .int sp :: .ref a0 :: r => match M[a0]?, M[a]? with
        | some (.inl (0, n0, .inl f)), some (.inl (0, n1, .inl g)) =>
          match decide (sp < 0) || decide (dp < 0) || decide (n < 0) || Nat.blt n0 (sp.toNatClampNeg + n.toNatClampNeg) || Nat.blt n1 (dp.toNatClampNeg + n.toNatClampNeg) || Nat.beq a 0 || Nat.beq a0 0 || Nat.blt 8 (catS r) with
          | true => none
          | false => some (r, M.set a (.inl (0, n1, .inl (va_cpy f g sp.toNatClampNeg dp.toNatClampNeg n.toNatClampNeg))))
        | _, _ => none
      | _ => none
    | 6 => match sk with
      | .double x :: r => match Nat.ble (catS r) 8 with
        | true => some (.long x.toInt64 :: r, M)
        | false => none
      | _ => none
    | 7 => match sk with
      | .float x :: r => match Nat.ble (catS r) 8 with
        | true => some (.int x.toInt32 :: r, M)
        | false => none
      | _ => none
    | _ => none
  | _ => none
/-- a call: what is handed, and the stack that stays -/
def gI (i : Instr) (kd n rc : Nat) (sk : List Value) (M : PM) : Option (List Value × List Value) :=
  match Nat.ble n sk.length && Nat.ble (catS (sk.drop n)) 8 with
  | false => none
  | true => match i with
    | .invokestatic _ => match Nat.beq kd 0 || Nat.beq kd 8 with
      | true => some ((sk.take n).reverse, sk.drop n)
      | false => none
    | .invokespecial _ => match Nat.beq kd 2 || Nat.beq kd 3 with
      | true => match (sk.take n).reverse with
        | .ref a :: As => some (.ref a :: As, sk.drop n)
        | _ => none
      | false => none
    | .invokevirtual _ => match Nat.beq kd 1 with
      | true => match (sk.take n).reverse with
        | .ref a :: As => match M[a]? with
          | some (.inr (c, _)) => match Nat.beq c rc with
            | true => some (.ref a :: As, sk.drop n)
            | false => none
          | _ => none
        | _ => none
      | false => none
    | _ => none
/-- answers -/
def gR (ret : Option FieldType) (i : Instr) (sk : List Value) : Option (Option Value) := match i with
  | .ireturn => match sk, ret with
    | [.int v], some .int => some (some (.int v))
    | [.int v], some .boolean => match decide (v = 0) || decide (v = 1) with
      | true => some (some (.int v))
      | false => none
    | _, _ => none
  | .lreturn => match sk, ret with
    | [.long v], some .long => some (some (.long v))
    | _, _ => none
  | .areturn => match sk, ret with
    | [.ref v], some (.object _) => some (some (.ref v))
    | _, _ => none
  | .return_ => match sk, ret with
    | [], none => some none
    | _, _ => none
  | _ => none
abbrev CF : Type := Nat × LV × List Value × PM
/-- what the stack becomes of an instruction that touches neither locals nor the heap -/
def gK (i : Instr) (lv : LV) (r1 r2 : Nat) (sk : List Value) : Option (List Value) :=
  match gA i lv with
  | some v => some (v :: sk)
  | none => match gC i r1 r2 sk with
    | some x => some x
    | none => match gD i sk with
      | some x => some x
      | none => gE i sk
def gH (i : Instr) (tg r1 r2 : Nat) (sk : List Value) (M : PM) : Option (List Value × PM) :=
  match gF i r1 r2 sk M with
  | some x => some x
  | none => match gM i r1 sk M with
    | some x => some x
    | none => gN i tg sk M
/-- one step: on, an answer, or a call -/
def stp (c : MM) (x : CF) : Option (CF ⊕ Option Value ⊕ (Nat × List Value × List Value × Nat)) :=
  match x with
  | (pc, lv, sk, M) => match fe c.2 pc with
    | none => none
    | some (i, _, nx, tg, r1, r2, r3) => match gK i lv r1 r2 sk with
      | some sk' => some (.inl (nx, lv, sk', M))
      | none => match gB i lv sk with
        | some (lv', sk') => some (.inl (nx, lv', sk', M))
        | none => match gG i sk with
          | some (b, sk') => some (.inl (cond b tg nx, lv, sk', M))
          | none => match gH i tg r1 r2 sk M with
            | some (sk', M') => some (.inl (nx, lv, sk', M'))
            | none => match gS i pc sk with
              | some (pc', sk') => some (.inl (pc', lv, sk', M))
              | none => match gR c.1 i sk with
                | some r => some (.inr (.inl r))
                | none => match gI i tg r2 r3 sk M with
                  | some (as, r) => some (.inr (.inr (r1, as, r, nx)))
                  | none => none
def lvs : Nat → List Value → LV
  | _, [] => []
  | k, v :: l => (k, v) :: lvs (match cat2 v with | true => k + 2 | false => k + 1) l
def run : Nat → MM → CF → Option (Option Value × PM)
  | 0, _, _ => none
  | n + 1, c, x => match stp c x with
    | none => none
    | some (.inl x') => run n c x'
    | some (.inr (.inl r)) => some (r, x.2.2.2)
    | some (.inr (.inr (y, as, r, nx))) => match Nat.ble (catS as) (mi y).2.2.1 with
      | false => none
      | true => match run n (mm y) (0, lvs 0 as, [], x.2.2.2) with
        | none => none
        | some (v, M') => run n c (nx, x.2.1, v.toList ++ r, M')
end
section
def finF (c k : Nat) : Bool := ((vcl c).2.1 k).2.2.2
/-- a row of a resolved code against the bytes and the tables -/
def okE (q : MI) (e : EN) : Bool := match e with
  | (pc, i, ln, nx, tg, r1, r2, r3) =>
    decide (decode q.2.1 pc = .ok (i, ln)) && Nat.beq nx (pc + ln) && (match i with
      | .tableswitch _ _ _ _ => true
      | .lookupswitch _ ps => (ps.toList.zip (ps.toList.drop 1)).all (fun (a, next) => a.1 < next.1)
      | .goto off => Nat.beq ln 3 && decide ((pc : Int) + off = (tg : Int))
      | .ifCond _ off => Nat.beq ln 3 && decide ((pc : Int) + off = (tg : Int))
      | .if_icmp _ off => Nat.beq ln 3 && decide ((pc : Int) + off = (tg : Int))
      | .istore_n k => Nat.beq ln 1 && Nat.blt k.val q.2.2.1
      | .fstore_n k => Nat.beq ln 1 && Nat.blt k.val q.2.2.1
      | .astore_n k => Nat.beq ln 1 && Nat.blt k.val q.2.2.1
      | .istore k => Nat.beq ln 2 && Nat.blt k q.2.2.1
      | .astore k => Nat.beq ln 2 && Nat.blt k q.2.2.1
      | .lstore k => Nat.beq ln 2 && Nat.blt (k + 1) q.2.2.1
      | .dstore k => Nat.beq ln 2 && Nat.blt (k + 1) q.2.2.1
      | .iinc k _ => Nat.beq ln 3 && Nat.blt k q.2.2.1
      | .bipush n => Nat.beq ln 2 && decide ((Int8.ofInt n).toInt32 = Int32.ofInt n)
      | .sipush n => Nat.beq ln 3 && decide ((Int16.ofInt n).toInt32 = Int32.ofInt n)
      | .ldc ix => Nat.beq ln 2 && csl.any (fun t => Nat.beq t.1 q.2.2.2.2.2.1 && Nat.beq t.2.1 ix && Nat.beq t.2.2.1 r1 && Nat.beq t.2.2.2.1 r2)
      | .ldc2_w ix => Nat.beq ln 3 && csl.any (fun t => Nat.beq t.1 q.2.2.2.2.2.1 && Nat.beq t.2.1 ix && Nat.beq t.2.2.1 r1 && Nat.beq t.2.2.2.1 r2)
      | .getfield ix => Nat.beq ln 3 && fdl.any (fun t => Nat.beq t.1 q.2.2.2.2.2.1 && Nat.beq t.2.1 ix && Nat.beq t.2.2.1 r1 && Nat.beq t.2.2.2.1 r2)
      | .putfield ix => Nat.beq ln 3 && fdl.any (fun t => Nat.beq t.1 q.2.2.2.2.2.1 && Nat.beq t.2.1 ix && Nat.beq t.2.2.1 r1 && Nat.beq t.2.2.2.1 r2) && (!(finF r1 r2) || (decide (q.1.name = "<init>") && decide (((vcl r1).2.1 r2).1 = q.1.cls)))
      | .new ix => Nat.beq ln 3 && nwl.any (fun t => Nat.beq t.1 q.2.2.2.2.2.1 && Nat.beq t.2.1 ix && Nat.beq t.2.2.1 r1 && Nat.beq t.2.2.2.1 0)
      | .anewarray ix => Nat.beq ln 3 && nwl.any (fun t => Nat.beq t.1 q.2.2.2.2.2.1 && Nat.beq t.2.1 ix && Nat.beq t.2.2.1 r1 && Nat.beq t.2.2.2.1 1)
      | .newarray _ => Nat.beq ln 2
      | .invokevirtual ix => Nat.beq ln 3 && cll.any (fun t => Nat.beq t.1 q.2.2.2.2.2.1 && Nat.beq t.2.1 ix && Nat.beq t.2.2.1 tg && Nat.beq t.2.2.2.1 r1 && Nat.beq t.2.2.2.2.1 r2 && Nat.beq t.2.2.2.2.2.1 r3) && Nat.blt (mi r1).2.2.2.2.1 q.2.2.2.2.1 && Nat.ble (mi r1).2.2.1 16
      | .invokespecial ix => Nat.beq ln 3 && cll.any (fun t => Nat.beq t.1 q.2.2.2.2.2.1 && Nat.beq t.2.1 ix && Nat.beq t.2.2.1 tg && Nat.beq t.2.2.2.1 r1 && Nat.beq t.2.2.2.2.1 r2 && Nat.beq t.2.2.2.2.2.1 r3) && (Nat.beq tg 4 || Nat.blt (mi r1).2.2.2.2.1 q.2.2.2.2.1) && Nat.ble (mi r1).2.2.1 16
      | .invokestatic ix => Nat.beq ln 3 && cll.any (fun t => Nat.beq t.1 q.2.2.2.2.2.1 && Nat.beq t.2.1 ix && Nat.beq t.2.2.1 tg && Nat.beq t.2.2.2.1 r1 && Nat.beq t.2.2.2.2.1 r2 && Nat.beq t.2.2.2.2.2.1 r3) && (Nat.beq tg 5 || Nat.beq tg 6 || Nat.beq tg 7 || Nat.blt (mi r1).2.2.2.2.1 q.2.2.2.2.1) && Nat.ble (mi r1).2.2.1 16
      | .aload _ => Nat.beq ln 2
      | .iload _ => Nat.beq ln 2
      | .lload _ => Nat.beq ln 2
      | .dload _ => Nat.beq ln 2
      | _ => Nat.beq ln 1)
/-- a method: its rows, its answer's type, its class -/
def okM (c : MM) (q : MI) : Prop := c.2.all (okE q) = true ∧ c.1 = q.2.2.2.1 ∧ own q.2.2.2.2.2.1 = q.1.cls ∧ 1 ≤ q.2.2.2.2.1
def okAll : List MM → List MI → Prop
  | c :: l, q :: r => okM c q ∧ okAll l r
  | _, _ => True
theorem okAll_at : ∀ {l : List MM} {r : List MI} (k : Nat), okAll l r → k < l.length → k < r.length → okM (nth mm0 l k) (nth mi0 r k)
  | [], _, _, _, h, _ => absurd h (Nat.not_lt_zero _)
  | _ :: _, [], _, _, _, h => absurd h (Nat.not_lt_zero _)
  | _ :: _, _ :: _, 0, h, _, _ => h.1
  | _ :: l, _ :: r, k + 1, h, h1, h2 => okAll_at k h.2 (Nat.lt_of_succ_lt_succ h1) (Nat.lt_of_succ_lt_succ h2)
theorem okm_0 : okM k_X0_init (nth mi0 mit 0) := ⟨by decide +kernel, rfl, by decide +kernel, by decide +kernel⟩
theorem okm_1 : okM k_X0_clear (nth mi0 mit 1) := ⟨by decide +kernel, rfl, by decide +kernel, by decide +kernel⟩
theorem okm_2 : okM k_X0_copy (nth mi0 mit 2) := ⟨by decide +kernel, rfl, by decide +kernel, by decide +kernel⟩
theorem okm_3 : okM k_X0_ruleCount (nth mi0 mit 3) := ⟨by decide +kernel, rfl, by decide +kernel, by decide +kernel⟩
theorem okm_4 : okM k_X0_hasRule (nth mi0 mit 4) := ⟨by decide +kernel, rfl, by decide +kernel, by decide +kernel⟩
theorem okm_5 : okM k_X0_hasSymbol (nth mi0 mit 5) := ⟨by decide +kernel, rfl, by decide +kernel, by decide +kernel⟩
theorem okm_6 : okM k_X0_isRule (nth mi0 mit 6) := ⟨by decide +kernel, rfl, by decide +kernel, by decide +kernel⟩
theorem okm_7 : okM k_X0_hasPlace (nth mi0 mit 7) := ⟨by decide +kernel, rfl, by decide +kernel, by decide +kernel⟩
theorem okm_8 : okM k_X0_mainRow (nth mi0 mit 8) := ⟨by decide +kernel, rfl, by decide +kernel, by decide +kernel⟩
theorem okm_9 : okM k_X0_ruleRow (nth mi0 mit 9) := ⟨by decide +kernel, rfl, by decide +kernel, by decide +kernel⟩
theorem okm_10 : okM k_X0_mainSymbol (nth mi0 mit 10) := ⟨by decide +kernel, rfl, by decide +kernel, by decide +kernel⟩
theorem okm_11 : okM k_X0_wordLetters (nth mi0 mit 11) := ⟨by decide +kernel, rfl, by decide +kernel, by decide +kernel⟩
theorem okm_12 : okM k_X0_lettersOfRule (nth mi0 mit 12) := ⟨by decide +kernel, rfl, by decide +kernel, by decide +kernel⟩
theorem okm_13 : okM k_X0_depthOfRule (nth mi0 mit 13) := ⟨by decide +kernel, rfl, by decide +kernel, by decide +kernel⟩
theorem okm_14 : okM k_X0_usesOf (nth mi0 mit 14) := ⟨by decide +kernel, rfl, by decide +kernel, by decide +kernel⟩
theorem okm_15 : okM k_X0_lettersOfSymbol (nth mi0 mit 15) := ⟨by decide +kernel, rfl, by decide +kernel, by decide +kernel⟩
theorem okm_16 : okM k_X0_totalSize (nth mi0 mit 16) := ⟨by decide +kernel, rfl, by decide +kernel, by decide +kernel⟩
theorem okm_17 : okM k_X0_deepest (nth mi0 mit 17) := ⟨by decide +kernel, rfl, by decide +kernel, by decide +kernel⟩
theorem okm_18 : okM k_X0_unusedRules (nth mi0 mit 18) := ⟨by decide +kernel, rfl, by decide +kernel, by decide +kernel⟩
theorem okm_19 : okM k_X0_tellsTooMuch (nth mi0 mit 19) := ⟨by decide +kernel, rfl, by decide +kernel, by decide +kernel⟩
theorem okm_20 : okM k_X0_measure (nth mi0 mit 20) := ⟨by decide +kernel, rfl, by decide +kernel, by decide +kernel⟩
theorem okm_21 : okM k_X0_depthOfRow (nth mi0 mit 21) := ⟨by decide +kernel, rfl, by decide +kernel, by decide +kernel⟩
theorem okm_22 : okM k_X0_noteUses (nth mi0 mit 22) := ⟨by decide +kernel, rfl, by decide +kernel, by decide +kernel⟩
theorem okm_23 : okM k_X0_lettersAhead (nth mi0 mit 23) := ⟨by decide +kernel, rfl, by decide +kernel, by decide +kernel⟩
theorem okm_24 : okM k_X0_positionOf (nth mi0 mit 24) := ⟨by decide +kernel, rfl, by decide +kernel, by decide +kernel⟩
theorem okm_25 : okM k_X0_positionInMain (nth mi0 mit 25) := ⟨by decide +kernel, rfl, by decide +kernel, by decide +kernel⟩
theorem okm_26 : okM k_X0_isBoundary (nth mi0 mit 26) := ⟨by decide +kernel, rfl, by decide +kernel, by decide +kernel⟩
theorem okm_27 : okM k_X0_openTo (nth mi0 mit 27) := ⟨by decide +kernel, rfl, by decide +kernel, by decide +kernel⟩
theorem okm_28 : okM k_X0_setInMain (nth mi0 mit 28) := ⟨by decide +kernel, rfl, by decide +kernel, by decide +kernel⟩
theorem okm_29 : okM k_X0_putIntoMain (nth mi0 mit 29) := ⟨by decide +kernel, rfl, by decide +kernel, by decide +kernel⟩
theorem okm_30 : okM k_X0_takeFromMain (nth mi0 mit 30) := ⟨by decide +kernel, rfl, by decide +kernel, by decide +kernel⟩
theorem okm_31 : okM k_X0_addRule (nth mi0 mit 31) := ⟨by decide +kernel, rfl, by decide +kernel, by decide +kernel⟩
theorem okm_32 : okM k_X0_foldUpTo (nth mi0 mit 32) := ⟨by decide +kernel, rfl, by decide +kernel, by decide +kernel⟩
theorem okm_33 : okM k_X0_canUnroll (nth mi0 mit 33) := ⟨by decide +kernel, rfl, by decide +kernel, by decide +kernel⟩
theorem okm_34 : okM k_X0_unrollRule (nth mi0 mit 34) := ⟨by decide +kernel, rfl, by decide +kernel, by decide +kernel⟩
theorem okm_35 : okM k_X0_unrollSeldomUsed (nth mi0 mit 35) := ⟨by decide +kernel, rfl, by decide +kernel, by decide +kernel⟩
theorem okm_36 : okM k_X0_lowestSeldomUsed (nth mi0 mit 36) := ⟨by decide +kernel, rfl, by decide +kernel, by decide +kernel⟩
theorem okm_37 : okM k_X1_init (nth mi0 mit 37) := ⟨by decide +kernel, rfl, by decide +kernel, by decide +kernel⟩
theorem okm_38 : okM k_X1_size (nth mi0 mit 38) := ⟨by decide +kernel, rfl, by decide +kernel, by decide +kernel⟩
theorem okm_39 : okM k_X1_record (nth mi0 mit 39) := ⟨by decide +kernel, rfl, by decide +kernel, by decide +kernel⟩
theorem okm_40 : okM k_X1_takeBack (nth mi0 mit 40) := ⟨by decide +kernel, rfl, by decide +kernel, by decide +kernel⟩
theorem okm_41 : okM k_X2_init (nth mi0 mit 41) := ⟨by decide +kernel, rfl, by decide +kernel, by decide +kernel⟩
theorem okm_42 : okM k_X2_size (nth mi0 mit 42) := ⟨by decide +kernel, rfl, by decide +kernel, by decide +kernel⟩
theorem okm_43 : okM k_X2_at (nth mi0 mit 43) := ⟨by decide +kernel, rfl, by decide +kernel, by decide +kernel⟩
theorem okm_44 : okM k_X2_add (nth mi0 mit 44) := ⟨by decide +kernel, rfl, by decide +kernel, by decide +kernel⟩
theorem okm_45 : okM k_X2_clear (nth mi0 mit 45) := ⟨by decide +kernel, rfl, by decide +kernel, by decide +kernel⟩
theorem okm_46 : okM k_X3_init (nth mi0 mit 46) := ⟨by decide +kernel, rfl, by decide +kernel, by decide +kernel⟩
theorem okm_47 : okM k_X3_bestFirst (nth mi0 mit 47) := ⟨by decide +kernel, rfl, by decide +kernel, by decide +kernel⟩
theorem okm_48 : okM k_X3_bestSecond (nth mi0 mit 48) := ⟨by decide +kernel, rfl, by decide +kernel, by decide +kernel⟩
theorem okm_49 : okM k_X3_bestTimes (nth mi0 mit 49) := ⟨by decide +kernel, rfl, by decide +kernel, by decide +kernel⟩
theorem okm_50 : okM k_X3_findBest (nth mi0 mit 50) := ⟨by decide +kernel, rfl, by decide +kernel, by decide +kernel⟩
theorem okm_51 : okM k_X3_countAll (nth mi0 mit 51) := ⟨by decide +kernel, rfl, by decide +kernel, by decide +kernel⟩
theorem okm_52 : okM k_X3_keyAt (nth mi0 mit 52) := ⟨by decide +kernel, rfl, by decide +kernel, by decide +kernel⟩
theorem okm_53 : okM k_X4_init (nth mi0 mit 53) := ⟨by decide +kernel, rfl, by decide +kernel, by decide +kernel⟩
theorem okm_54 : okM k_X4_foundLetter (nth mi0 mit 54) := ⟨by decide +kernel, rfl, by decide +kernel, by decide +kernel⟩
theorem okm_55 : okM k_X4_rulesPassed (nth mi0 mit 55) := ⟨by decide +kernel, rfl, by decide +kernel, by decide +kernel⟩
theorem okm_56 : okM k_X4_follow (nth mi0 mit 56) := ⟨by decide +kernel, rfl, by decide +kernel, by decide +kernel⟩
theorem okm_57 : okM k_X5_init (nth mi0 mit 57) := ⟨by decide +kernel, rfl, by decide +kernel, by decide +kernel⟩
theorem okm_58 : okM k_X5_read (nth mi0 mit 58) := ⟨by decide +kernel, rfl, by decide +kernel, by decide +kernel⟩
theorem okm_59 : okM k_X5_next (nth mi0 mit 59) := ⟨by decide +kernel, rfl, by decide +kernel, by decide +kernel⟩
theorem okm_60 : okM k_X5_startRow (nth mi0 mit 60) := ⟨by decide +kernel, rfl, by decide +kernel, by decide +kernel⟩
theorem okm_61 : okM k_X5_endRule (nth mi0 mit 61) := ⟨by decide +kernel, rfl, by decide +kernel, by decide +kernel⟩
theorem okm_62 : okM k_X5_grow (nth mi0 mit 62) := ⟨by decide +kernel, rfl, by decide +kernel, by decide +kernel⟩
theorem okm_63 : okM k_X5_symbolOf (nth mi0 mit 63) := ⟨by decide +kernel, rfl, by decide +kernel, by decide +kernel⟩
theorem okm_64 : okM k_X6_init (nth mi0 mit 64) := ⟨by decide +kernel, rfl, by decide +kernel, by decide +kernel⟩
theorem okm_65 : okM k_X6_size (nth mi0 mit 65) := ⟨by decide +kernel, rfl, by decide +kernel, by decide +kernel⟩
theorem okm_66 : okM k_X6_has (nth mi0 mit 66) := ⟨by decide +kernel, rfl, by decide +kernel, by decide +kernel⟩
theorem okm_67 : okM k_X6_at (nth mi0 mit 67) := ⟨by decide +kernel, rfl, by decide +kernel, by decide +kernel⟩
theorem okm_68 : okM k_X6_set (nth mi0 mit 68) := ⟨by decide +kernel, rfl, by decide +kernel, by decide +kernel⟩
theorem okm_69 : okM k_X6_clear (nth mi0 mit 69) := ⟨by decide +kernel, rfl, by decide +kernel, by decide +kernel⟩
theorem okm_70 : okM k_X6_copy (nth mi0 mit 70) := ⟨by decide +kernel, rfl, by decide +kernel, by decide +kernel⟩
theorem okm_71 : okM k_X6_add (nth mi0 mit 71) := ⟨by decide +kernel, rfl, by decide +kernel, by decide +kernel⟩
theorem okm_72 : okM k_X6_putIn (nth mi0 mit 72) := ⟨by decide +kernel, rfl, by decide +kernel, by decide +kernel⟩
theorem okm_73 : okM k_X6_takeOut (nth mi0 mit 73) := ⟨by decide +kernel, rfl, by decide +kernel, by decide +kernel⟩
theorem okm_74 : okM k_X6_open (nth mi0 mit 74) := ⟨by decide +kernel, rfl, by decide +kernel, by decide +kernel⟩
theorem okm_75 : okM k_X6_shift (nth mi0 mit 75) := ⟨by decide +kernel, rfl, by decide +kernel, by decide +kernel⟩
theorem okm_76 : okM k_X6_hasPair (nth mi0 mit 76) := ⟨by decide +kernel, rfl, by decide +kernel, by decide +kernel⟩
theorem okm_77 : okM k_X6_timesOfPair (nth mi0 mit 77) := ⟨by decide +kernel, rfl, by decide +kernel, by decide +kernel⟩
theorem okm_78 : okM k_X6_foldPair (nth mi0 mit 78) := ⟨by decide +kernel, rfl, by decide +kernel, by decide +kernel⟩
theorem okm_79 : okM k_X6_canUnroll (nth mi0 mit 79) := ⟨by decide +kernel, rfl, by decide +kernel, by decide +kernel⟩
theorem okm_80 : okM k_X6_unrollSymbol (nth mi0 mit 80) := ⟨by decide +kernel, rfl, by decide +kernel, by decide +kernel⟩
theorem okm_81 : okM k_X7_init (nth mi0 mit 81) := ⟨by decide +kernel, rfl, by decide +kernel, by decide +kernel⟩
theorem okm_82 : okM k_X7_markOfWord (nth mi0 mit 82) := ⟨by decide +kernel, rfl, by decide +kernel, by decide +kernel⟩
theorem okm_83 : okM k_X7_timesOfLetter (nth mi0 mit 83) := ⟨by decide +kernel, rfl, by decide +kernel, by decide +kernel⟩
theorem okm_84 : okM k_X7_sumRules (nth mi0 mit 84) := ⟨by decide +kernel, rfl, by decide +kernel, by decide +kernel⟩
theorem okm_85 : okM k_X7_sumRow (nth mi0 mit 85) := ⟨by decide +kernel, rfl, by decide +kernel, by decide +kernel⟩
theorem okm_86 : okM k_X8_init (nth mi0 mit 86) := ⟨by decide +kernel, rfl, by decide +kernel, by decide +kernel⟩
theorem okm_87 : okM k_X8_start (nth mi0 mit 87) := ⟨by decide +kernel, rfl, by decide +kernel, by decide +kernel⟩
theorem okm_88 : okM k_X8_next (nth mi0 mit 88) := ⟨by decide +kernel, rfl, by decide +kernel, by decide +kernel⟩
theorem okm_89 : okM k_X8_enter (nth mi0 mit 89) := ⟨by decide +kernel, rfl, by decide +kernel, by decide +kernel⟩
theorem okm_90 : okM k_X9_init (nth mi0 mit 90) := ⟨by decide +kernel, rfl, by decide +kernel, by decide +kernel⟩
theorem okm_91 : okM k_X9_tell (nth mi0 mit 91) := ⟨by decide +kernel, rfl, by decide +kernel, by decide +kernel⟩
theorem okm_92 : okM k_X9_fold (nth mi0 mit 92) := ⟨by decide +kernel, rfl, by decide +kernel, by decide +kernel⟩
theorem okm_93 : okM k_X9_unroll (nth mi0 mit 93) := ⟨by decide +kernel, rfl, by decide +kernel, by decide +kernel⟩
theorem okm_94 : okM k_X9_prune (nth mi0 mit 94) := ⟨by decide +kernel, rfl, by decide +kernel, by decide +kernel⟩
theorem okm_95 : okM k_X9_edit (nth mi0 mit 95) := ⟨by decide +kernel, rfl, by decide +kernel, by decide +kernel⟩
theorem okm_96 : okM k_X9_insert (nth mi0 mit 96) := ⟨by decide +kernel, rfl, by decide +kernel, by decide +kernel⟩
theorem okm_97 : okM k_X9_delete (nth mi0 mit 97) := ⟨by decide +kernel, rfl, by decide +kernel, by decide +kernel⟩
theorem okm_98 : okM k_X9_letter (nth mi0 mit 98) := ⟨by decide +kernel, rfl, by decide +kernel, by decide +kernel⟩
theorem okm_99 : okM k_X9_symbol (nth mi0 mit 99) := ⟨by decide +kernel, rfl, by decide +kernel, by decide +kernel⟩
theorem okm_100 : okM k_X9_ofRule (nth mi0 mit 100) := ⟨by decide +kernel, rfl, by decide +kernel, by decide +kernel⟩
theorem okm_101 : okM k_X9_count (nth mi0 mit 101) := ⟨by decide +kernel, rfl, by decide +kernel, by decide +kernel⟩
theorem okm_102 : okM k_X9_pair (nth mi0 mit 102) := ⟨by decide +kernel, rfl, by decide +kernel, by decide +kernel⟩
theorem okm_103 : okM k_X9_best (nth mi0 mit 103) := ⟨by decide +kernel, rfl, by decide +kernel, by decide +kernel⟩
theorem okm_104 : okM k_X9_ratio (nth mi0 mit 104) := ⟨by decide +kernel, rfl, by decide +kernel, by decide +kernel⟩
theorem okm_105 : okM k_X9_share (nth mi0 mit 105) := ⟨by decide +kernel, rfl, by decide +kernel, by decide +kernel⟩
theorem okm_106 : okM k_X9_mark (nth mi0 mit 106) := ⟨by decide +kernel, rfl, by decide +kernel, by decide +kernel⟩
theorem okm_107 : okM k_X9_couldBe (nth mi0 mit 107) := ⟨by decide +kernel, rfl, by decide +kernel, by decide +kernel⟩
theorem okm_108 : okM k_X9_unlike (nth mi0 mit 108) := ⟨by decide +kernel, rfl, by decide +kernel, by decide +kernel⟩
theorem okm_109 : okM k_X9_opens (nth mi0 mit 109) := ⟨by decide +kernel, rfl, by decide +kernel, by decide +kernel⟩
theorem okm_110 : okM k_X9_put (nth mi0 mit 110) := ⟨by decide +kernel, rfl, by decide +kernel, by decide +kernel⟩
theorem okm_111 : okM k_X9_wipe (nth mi0 mit 111) := ⟨by decide +kernel, rfl, by decide +kernel, by decide +kernel⟩
theorem okm_112 : okM k_X9_fault (nth mi0 mit 112) := ⟨by decide +kernel, rfl, by decide +kernel, by decide +kernel⟩
theorem okm_113 : okM k_X9_undo (nth mi0 mit 113) := ⟨by decide +kernel, rfl, by decide +kernel, by decide +kernel⟩
theorem okm_114 : okM k_X9_save (nth mi0 mit 114) := ⟨by decide +kernel, rfl, by decide +kernel, by decide +kernel⟩
theorem okm_115 : okM k_X9_restore (nth mi0 mit 115) := ⟨by decide +kernel, rfl, by decide +kernel, by decide +kernel⟩
theorem okm_116 : okM k_X9_accept (nth mi0 mit 116) := ⟨by decide +kernel, rfl, by decide +kernel, by decide +kernel⟩
theorem okm_117 : okM k_X9_isLetter (nth mi0 mit 117) := ⟨by decide +kernel, rfl, by decide +kernel, by decide +kernel⟩
theorem okm_118 : okM k_X9_isSlot (nth mi0 mit 118) := ⟨by decide +kernel, rfl, by decide +kernel, by decide +kernel⟩
theorem okm_119 : okM k_X9_codeIn (nth mi0 mit 119) := ⟨by decide +kernel, rfl, by decide +kernel, by decide +kernel⟩
theorem okm_120 : okM k_X9_lengthOf (nth mi0 mit 120) := ⟨by decide +kernel, rfl, by decide +kernel, by decide +kernel⟩
theorem okm_121 : okM k_X9_bitsOf (nth mi0 mit 121) := ⟨by decide +kernel, rfl, by decide +kernel, by decide +kernel⟩
theorem okm_122 : okM k_X10_init (nth mi0 mit 122) := ⟨by decide +kernel, rfl, by decide +kernel, by decide +kernel⟩
theorem okm_123 : okM k_X10_in (nth mi0 mit 123) := ⟨by decide +kernel, rfl, by decide +kernel, by decide +kernel⟩
theorem okm_124 : okM k_X10_copy (nth mi0 mit 124) := ⟨by decide +kernel, rfl, by decide +kernel, by decide +kernel⟩
theorem okm_125 : okM k_X10_changed (nth mi0 mit 125) := ⟨by decide +kernel, rfl, by decide +kernel, by decide +kernel⟩
theorem okm_126 : okM k_X10_rowLong (nth mi0 mit 126) := ⟨by decide +kernel, rfl, by decide +kernel, by decide +kernel⟩
theorem okm_127 : okM k_X10_at (nth mi0 mit 127) := ⟨by decide +kernel, rfl, by decide +kernel, by decide +kernel⟩
theorem okm_128 : okM k_X10_isRule (nth mi0 mit 128) := ⟨by decide +kernel, rfl, by decide +kernel, by decide +kernel⟩
theorem okm_129 : okM k_X10_ruleOf (nth mi0 mit 129) := ⟨by decide +kernel, rfl, by decide +kernel, by decide +kernel⟩
theorem okm_130 : okM k_X10_isLetter (nth mi0 mit 130) := ⟨by decide +kernel, rfl, by decide +kernel, by decide +kernel⟩
theorem okm_131 : okM k_X10_rowAt (nth mi0 mit 131) := ⟨by decide +kernel, rfl, by decide +kernel, by decide +kernel⟩
theorem okm_132 : okM k_X10_letters (nth mi0 mit 132) := ⟨by decide +kernel, rfl, by decide +kernel, by decide +kernel⟩
theorem okm_133 : okM k_X10_measures (nth mi0 mit 133) := ⟨by decide +kernel, rfl, by decide +kernel, by decide +kernel⟩
theorem okm_134 : okM k_X10_wordLong (nth mi0 mit 134) := ⟨by decide +kernel, rfl, by decide +kernel, by decide +kernel⟩
theorem okm_135 : okM k_X10_used (nth mi0 mit 135) := ⟨by decide +kernel, rfl, by decide +kernel, by decide +kernel⟩
theorem okm_136 : okM k_X10_digs (nth mi0 mit 136) := ⟨by decide +kernel, rfl, by decide +kernel, by decide +kernel⟩
theorem okm_137 : okM k_X10_size (nth mi0 mit 137) := ⟨by decide +kernel, rfl, by decide +kernel, by decide +kernel⟩
theorem okm_138 : okM k_X10_tellsWord (nth mi0 mit 138) := ⟨by decide +kernel, rfl, by decide +kernel, by decide +kernel⟩
theorem okm_139 : okM k_X10_pairs (nth mi0 mit 139) := ⟨by decide +kernel, rfl, by decide +kernel, by decide +kernel⟩
theorem okm_140 : okM k_X10_pairsFrom (nth mi0 mit 140) := ⟨by decide +kernel, rfl, by decide +kernel, by decide +kernel⟩
theorem okm_141 : okM k_X10_bestPlace (nth mi0 mit 141) := ⟨by decide +kernel, rfl, by decide +kernel, by decide +kernel⟩
theorem okm_142 : okM k_X10_folds (nth mi0 mit 142) := ⟨by decide +kernel, rfl, by decide +kernel, by decide +kernel⟩
theorem okm_143 : okM k_X10_usedIn (nth mi0 mit 143) := ⟨by decide +kernel, rfl, by decide +kernel, by decide +kernel⟩
theorem okm_144 : okM k_X10_canUnroll (nth mi0 mit 144) := ⟨by decide +kernel, rfl, by decide +kernel, by decide +kernel⟩
theorem okm_145 : okM k_X10_unrollsIn (nth mi0 mit 145) := ⟨by decide +kernel, rfl, by decide +kernel, by decide +kernel⟩
theorem okm_146 : okM k_X10_unrolls (nth mi0 mit 146) := ⟨by decide +kernel, rfl, by decide +kernel, by decide +kernel⟩
theorem okm_147 : okM k_X10_nextPruned (nth mi0 mit 147) := ⟨by decide +kernel, rfl, by decide +kernel, by decide +kernel⟩
theorem okm_148 : okM k_X10_prunes (nth mi0 mit 148) := ⟨by decide +kernel, rfl, by decide +kernel, by decide +kernel⟩
theorem okm_149 : okM k_X10_seeks (nth mi0 mit 149) := ⟨by decide +kernel, rfl, by decide +kernel, by decide +kernel⟩
theorem okm_150 : okM k_X10_opensAt (nth mi0 mit 150) := ⟨by decide +kernel, rfl, by decide +kernel, by decide +kernel⟩
theorem okm_151 : okM k_X10_opensTo (nth mi0 mit 151) := ⟨by decide +kernel, rfl, by decide +kernel, by decide +kernel⟩
theorem okm_152 : okM k_X10_fails (nth mi0 mit 152) := ⟨by decide +kernel, rfl, by decide +kernel, by decide +kernel⟩
theorem okm_153 : okM k_X10_put (nth mi0 mit 153) := ⟨by decide +kernel, rfl, by decide +kernel, by decide +kernel⟩
theorem okm_154 : okM k_X10_wipe (nth mi0 mit 154) := ⟨by decide +kernel, rfl, by decide +kernel, by decide +kernel⟩
theorem okm_155 : okM k_X10_takes (nth mi0 mit 155) := ⟨by decide +kernel, rfl, by decide +kernel, by decide +kernel⟩
theorem okm_156 : okM k_X10_symbolOf (nth mi0 mit 156) := ⟨by decide +kernel, rfl, by decide +kernel, by decide +kernel⟩
theorem okm_157 : okM k_X10_readsRow (nth mi0 mit 157) := ⟨by decide +kernel, rfl, by decide +kernel, by decide +kernel⟩
theorem okm_158 : okM k_X10_fault (nth mi0 mit 158) := ⟨by decide +kernel, rfl, by decide +kernel, by decide +kernel⟩
theorem okm_159 : okM k_X10_tell (nth mi0 mit 159) := ⟨by decide +kernel, rfl, by decide +kernel, by decide +kernel⟩
theorem okm_160 : okM k_X10_fold (nth mi0 mit 160) := ⟨by decide +kernel, rfl, by decide +kernel, by decide +kernel⟩
theorem okm_161 : okM k_X10_unroll (nth mi0 mit 161) := ⟨by decide +kernel, rfl, by decide +kernel, by decide +kernel⟩
theorem okm_162 : okM k_X10_prune (nth mi0 mit 162) := ⟨by decide +kernel, rfl, by decide +kernel, by decide +kernel⟩
theorem okm_163 : okM k_X10_edit (nth mi0 mit 163) := ⟨by decide +kernel, rfl, by decide +kernel, by decide +kernel⟩
theorem okm_164 : okM k_X10_isFirst (nth mi0 mit 164) := ⟨by decide +kernel, rfl, by decide +kernel, by decide +kernel⟩
theorem okm_165 : okM k_X10_insert (nth mi0 mit 165) := ⟨by decide +kernel, rfl, by decide +kernel, by decide +kernel⟩
theorem okm_166 : okM k_X10_delete (nth mi0 mit 166) := ⟨by decide +kernel, rfl, by decide +kernel, by decide +kernel⟩
theorem okm_167 : okM k_X10_letter (nth mi0 mit 167) := ⟨by decide +kernel, rfl, by decide +kernel, by decide +kernel⟩
theorem okm_168 : okM k_X10_symbol (nth mi0 mit 168) := ⟨by decide +kernel, rfl, by decide +kernel, by decide +kernel⟩
theorem okm_169 : okM k_X10_ofRule (nth mi0 mit 169) := ⟨by decide +kernel, rfl, by decide +kernel, by decide +kernel⟩
theorem okm_170 : okM k_X10_deepest (nth mi0 mit 170) := ⟨by decide +kernel, rfl, by decide +kernel, by decide +kernel⟩
theorem okm_171 : okM k_X10_notUsed (nth mi0 mit 171) := ⟨by decide +kernel, rfl, by decide +kernel, by decide +kernel⟩
theorem okm_172 : okM k_X10_count (nth mi0 mit 172) := ⟨by decide +kernel, rfl, by decide +kernel, by decide +kernel⟩
theorem okm_173 : okM k_X10_isSymbol (nth mi0 mit 173) := ⟨by decide +kernel, rfl, by decide +kernel, by decide +kernel⟩
theorem okm_174 : okM k_X10_pair (nth mi0 mit 174) := ⟨by decide +kernel, rfl, by decide +kernel, by decide +kernel⟩
theorem okm_175 : okM k_X10_best (nth mi0 mit 175) := ⟨by decide +kernel, rfl, by decide +kernel, by decide +kernel⟩
theorem okm_176 : okM k_X10_ratio (nth mi0 mit 176) := ⟨by decide +kernel, rfl, by decide +kernel, by decide +kernel⟩
theorem okm_177 : okM k_X10_share (nth mi0 mit 177) := ⟨by decide +kernel, rfl, by decide +kernel, by decide +kernel⟩
theorem okm_178 : okM k_X10_mark (nth mi0 mit 178) := ⟨by decide +kernel, rfl, by decide +kernel, by decide +kernel⟩
theorem okm_179 : okM k_X10_couldBe (nth mi0 mit 179) := ⟨by decide +kernel, rfl, by decide +kernel, by decide +kernel⟩
theorem okm_180 : okM k_X10_unlike (nth mi0 mit 180) := ⟨by decide +kernel, rfl, by decide +kernel, by decide +kernel⟩
theorem okm_181 : okM k_X10_opens (nth mi0 mit 181) := ⟨by decide +kernel, rfl, by decide +kernel, by decide +kernel⟩
theorem okm_182 : okM k_X10_undo (nth mi0 mit 182) := ⟨by decide +kernel, rfl, by decide +kernel, by decide +kernel⟩
theorem okm_183 : okM k_X10_save (nth mi0 mit 183) := ⟨by decide +kernel, rfl, by decide +kernel, by decide +kernel⟩
theorem okm_184 : okM k_X10_restore (nth mi0 mit 184) := ⟨by decide +kernel, rfl, by decide +kernel, by decide +kernel⟩
theorem okm_185 : okM k_Jxe99ae_isNaN_b9ae7 (nth mi0 mit 185) := ⟨by decide +kernel, rfl, by decide +kernel, by decide +kernel⟩
theorem okm_186 : okM k_Jxe99ae_doubleToLongBits_ccdee (nth mi0 mit 186) := ⟨by decide +kernel, rfl, by decide +kernel, by decide +kernel⟩
theorem okm_187 : okM k_Jxf58ca_isNaN_12338 (nth mi0 mit 187) := ⟨by decide +kernel, rfl, by decide +kernel, by decide +kernel⟩
theorem okm_188 : okM k_Jxf58ca_floatToIntBits_5c35a (nth mi0 mit 188) := ⟨by decide +kernel, rfl, by decide +kernel, by decide +kernel⟩
theorem okm_189 : okM k_J9_max_7cf53 (nth mi0 mit 189) := ⟨by decide +kernel, rfl, by decide +kernel, by decide +kernel⟩
theorem okm_190 : okM k_J9_min_7cf53 (nth mi0 mit 190) := ⟨by decide +kernel, rfl, by decide +kernel, by decide +kernel⟩
theorem okm_191 : okM k_J7_fill_53178 (nth mi0 mit 191) := ⟨by decide +kernel, rfl, by decide +kernel, by decide +kernel⟩
theorem okm_192 : okM k_L_law (nth mi0 mit 192) := ⟨by decide +kernel, rfl, by decide +kernel, by decide +kernel⟩
set_option maxRecDepth 100000 in
theorem okm_all : okAll prg mit := ⟨okm_0, okm_1, okm_2, okm_3, okm_4, okm_5, okm_6, okm_7, okm_8, okm_9, okm_10, okm_11, okm_12, okm_13, okm_14, okm_15, okm_16, okm_17, okm_18, okm_19, okm_20, okm_21, okm_22, okm_23, okm_24, okm_25, okm_26, okm_27, okm_28, okm_29, okm_30, okm_31, okm_32, okm_33, okm_34, okm_35, okm_36, okm_37, okm_38, okm_39, okm_40, okm_41, okm_42, okm_43, okm_44, okm_45, okm_46, okm_47, okm_48, okm_49, okm_50, okm_51, okm_52, okm_53, okm_54, okm_55, okm_56, okm_57, okm_58, okm_59, okm_60, okm_61, okm_62, okm_63, okm_64, okm_65, okm_66, okm_67, okm_68, okm_69, okm_70, okm_71, okm_72, okm_73, okm_74, okm_75, okm_76, okm_77, okm_78, okm_79, okm_80, okm_81, okm_82, okm_83, okm_84, okm_85, okm_86, okm_87, okm_88, okm_89, okm_90, okm_91, okm_92, okm_93, okm_94, okm_95, okm_96, okm_97, okm_98, okm_99, okm_100, okm_101, okm_102, okm_103, okm_104, okm_105, okm_106, okm_107, okm_108, okm_109, okm_110, okm_111, okm_112, okm_113, okm_114, okm_115, okm_116, okm_117, okm_118, okm_119, okm_120, okm_121, okm_122, okm_123, okm_124, okm_125, okm_126, okm_127, okm_128, okm_129, okm_130, okm_131, okm_132, okm_133, okm_134, okm_135, okm_136, okm_137, okm_138, okm_139, okm_140, okm_141, okm_142, okm_143, okm_144, okm_145, okm_146, okm_147, okm_148, okm_149, okm_150, okm_151, okm_152, okm_153, okm_154, okm_155, okm_156, okm_157, okm_158, okm_159, okm_160, okm_161, okm_162, okm_163, okm_164, okm_165, okm_166, okm_167, okm_168, okm_169, okm_170, okm_171, okm_172, okm_173, okm_174, okm_175, okm_176, okm_177, okm_178, okm_179, okm_180, okm_181, okm_182, okm_183, okm_184, okm_185, okm_186, okm_187, okm_188, okm_189, okm_190, okm_191, okm_192, trivial⟩
theorem okm (y : Nat) (h : y < 193) : okM (mm y) (mi y) := okAll_at y okm_all (Nat.lt_of_lt_of_le h (by decide +kernel)) (Nat.lt_of_lt_of_le h (by decide +kernel))
end
section
/-! The machine's world over the small machine's memory. -/
def ad (b sz : Nat) : Nat → Nat
  | 0 => b
  | j + 1 => sz + j
def cv (b sz : Nat) : Value → Value
  | .ref a => .ref (ad b sz a)
  | .int x => .int x
  | .long x => .long x
  | .float x => .float x
  | .double x => .double x
  | .null => .null
  | .retAddr x => .retAddr x
def cvA (b sz : Nat) : vp_A → vp_A
  | (n, .inl f) => (n, .inl f)
  | (n, .inr (.inl f)) => (n, .inr (.inl f))
  | (n, .inr (.inr (.inl f))) => (n, .inr (.inr (.inl f)))
  | (n, .inr (.inr (.inr (.inl f)))) => (n, .inr (.inr (.inr (.inl f))))
  | (n, .inr (.inr (.inr (.inr f)))) => (n, .inr (.inr (.inr (.inr (fun k => (f k).map (ad b sz))))))
def cE (cy : Nat → ClassId) (b sz : Nat) : PC → va_E
  | .inl (t, a) => .inl (cy t, cvA b sz a)
  | .inr (c, fs) => .inr (c, fs.map (cv b sz))
def wsM (cy : Nat → ClassId) (b sz : Nat) (M : PM) : va_W := (M.drop 1).mapIdx (fun j c => (sz + j, cE cy b sz c))
def cvp (b sz : Nat) (q : Nat × Value) : Nat × Value := (q.1, cv b sz q.2)
theorem cv_cat (b sz : Nat) (v : Value) : (cv b sz v).category = v.category := by cases v <;> rfl
theorem cat2_eq (v : Value) : cat2 v = (v.category == 2) := by cases v <;> rfl
theorem cat_one {v : Value} (h : cat2 v = false) : v.category = 1 := by cases v <;> first | rfl | cases h
theorem wsM_at {cy : Nat → ClassId} {b sz : Nat} {M : PM} {j : Nat} {c : PC} (h : M[j + 1]? = some c) : (wsM cy b sz M)[j]? = some (sz + j, cE cy b sz c) := by
  simp only [wsM, List.getElem?_mapIdx, List.getElem?_drop, Nat.add_comm 1 j, h, Option.map_some]
theorem wsM_set {cy : Nat → ClassId} {b sz : Nat} {M : PM} {j : Nat} {c : PC} : (wsM cy b sz M).set j (sz + j, cE cy b sz c) = wsM cy b sz (M.set (j + 1) c) := by
  apply List.ext_getElem?
  intro k
  by_cases hk : j = k
  · subst hk
    by_cases hl : j + 1 < M.length
    · rw [List.getElem?_set_self (by simp [wsM]; omega), wsM_at (c := c) (by rw [List.getElem?_set_self hl])]
    · rw [List.getElem?_eq_none (by simp [wsM]; omega), List.getElem?_eq_none (by simp [wsM]; omega)]
  · rw [List.getElem?_set_ne hk]
    simp only [wsM, List.getElem?_mapIdx, List.getElem?_drop]
    rw [List.getElem?_set_ne (by omega)]
theorem wsM_len {cy : Nat → ClassId} {b sz : Nat} {M : PM} : (wsM cy b sz M).length = M.length - 1 := by simp [wsM]
theorem wsM_push {cy : Nat → ClassId} {b sz : Nat} {M : PM} {c : PC} (h : 1 ≤ M.length) : wsM cy b sz M ++ [(sz + (M.length - 1), cE cy b sz c)] = wsM cy b sz (M ++ [c]) := by
  apply List.ext_getElem?
  intro k
  by_cases hk : k < M.length - 1
  · rw [List.getElem?_append_left (by rw [wsM_len]; exact hk)]
    simp only [wsM, List.getElem?_mapIdx, List.getElem?_drop]
    rw [List.getElem?_append_left (by omega)]
  · by_cases he : k = M.length - 1
    · subst he
      rw [List.getElem?_append_right (by rw [wsM_len]; exact Nat.le_refl _), wsM_len, Nat.sub_self]
      rw [wsM_at (c := c) (by rw [show M.length - 1 + 1 = M.length by omega]; simp)]
      rfl
    · rw [List.getElem?_eq_none (by simp [wsM_len]; omega), List.getElem?_eq_none (by simp [wsM_len]; omega)]
theorem wsM_D {cy : Nat → ClassId} {b sz : Nat} {M : PM} : va_D (fun q : Nat => sz ≤ q) (wsM cy b sz M) := by
  have key : ∀ (k : Nat) (q : Nat × va_E), (wsM cy b sz M)[k]? = some q → q.1 = sz + k := by
    intro k q h
    simp only [wsM, List.getElem?_mapIdx] at h
    cases hc : (M.drop 1)[k]? with
    | none => rw [hc] at h; cases h
    | some c => rw [hc] at h; cases h; rfl
  refine ⟨fun i j p q hp hq e => ?_, fun k q h => ?_⟩
  · have h1 := key i p hp
    have h2 := key j q hq
    omega
  · show sz ≤ q.1
    rw [key k q h]; omega
def tyl (cy : Nat → ClassId) : List (ClassId × FieldType) := [(cy 0, .int), (cy 1, .boolean), (cy 2, .object "PairGrammars$Row"), (cy 3, .object "PairGrammars$Grammar")]
theorem lget_mem : ∀ {lv : LV} {k : Nat} {v : Value}, lget lv k = some v → (k, v) ∈ lv
  | [], _, _, h => by cases h
  | q :: r, k, v, h => by
    unfold lget at h
    split at h
    · rename_i e
      have e := Nat.eq_of_beq_eq_true e
      cases h
      subst e
      exact List.mem_cons_self
    · exact List.mem_cons_of_mem _ (lget_mem h)
theorem lget_has {b sz : Nat} {ls : Array Slot} {nL : Nat} {lv : LV} {k : Nat} {v : Value} (h : lv_has ls nL (lv.map (cvp b sz))) (hk : lget lv k = some v) : ls[k]? = some (.val (cv b sz v)) :=
  h.2.2 (k, cv b sz v) (List.mem_map.mpr ⟨(k, v), lget_mem hk, rfl⟩)
theorem nbeq (a b : Nat) : Nat.beq a b = (a == b) := by
  rw [Bool.eq_iff_iff, beq_iff_eq]
  exact ⟨Nat.eq_of_beq_eq_true, fun h => by subst h; exact Nat.beq_refl a⟩
theorem ldel1_eq (b sz i : Nat) : ∀ lv : LV, (ldel1 i lv).map (cvp b sz) = (lv.map (cvp b sz)).filter (fun q => !(q.1 == i) && !(q.1 + 1 == i && q.2.category == 2))
  | [] => rfl
  | q :: r => by
    have ih := ldel1_eq b sz i r
    unfold ldel1
    have e : (!((cvp b sz q).1 == i) && !((cvp b sz q).1 + 1 == i && (cvp b sz q).2.category == 2)) = !(Nat.beq q.1 i || (Nat.beq (q.1 + 1) i && cat2 q.2)) := by
      rw [show (cvp b sz q).2.category = q.2.category from cv_cat b sz q.2, ← cat2_eq, Bool.not_or, nbeq, nbeq]; rfl
    rw [List.map_cons, List.filter_cons, e]
    cases Nat.beq q.1 i || (Nat.beq (q.1 + 1) i && cat2 q.2) with
    | true => simpa using ih
    | false => simpa using ih
theorem ldel2_eq (b sz i : Nat) : ∀ lv : LV, (ldel2 i lv).map (cvp b sz) = (lv.map (cvp b sz)).filter (fun q => !(q.1 == i) && (!(q.1 == i + 1) && !(q.1 + 1 == i && q.2.category == 2)))
  | [] => rfl
  | q :: r => by
    have ih := ldel2_eq b sz i r
    unfold ldel2
    have e : (!((cvp b sz q).1 == i) && (!((cvp b sz q).1 == i + 1) && !((cvp b sz q).1 + 1 == i && (cvp b sz q).2.category == 2))) = !(Nat.beq q.1 i || (Nat.beq q.1 (i + 1) || (Nat.beq (q.1 + 1) i && cat2 q.2))) := by
      rw [show (cvp b sz q).2.category = q.2.category from cv_cat b sz q.2, ← cat2_eq, Bool.not_or, Bool.not_or, nbeq, nbeq, nbeq]; rfl
    rw [List.map_cons, List.filter_cons, e]
    cases Nat.beq q.1 i || (Nat.beq q.1 (i + 1) || (Nat.beq (q.1 + 1) i && cat2 q.2)) with
    | true => simpa using ih
    | false => simpa using ih
theorem lst1_eq (b sz i : Nat) (v : Value) (lv : LV) : (i, cv b sz v) :: (lv.map (cvp b sz)).filter (fun q => !(q.1 == i) && !(q.1 + 1 == i && q.2.category == 2)) = (lst1 i v lv).map (cvp b sz) := by
  rw [← ldel1_eq]; rfl
theorem lst2_eq (b sz i : Nat) (v : Value) (lv : LV) : (i, cv b sz v) :: (lv.map (cvp b sz)).filter (fun q => !(q.1 == i) && (!(q.1 == i + 1) && !(q.1 + 1 == i && q.2.category == 2))) = (lst2 i v lv).map (cvp b sz) := by
  rw [← ldel2_eq]; rfl
theorem wR_inv {o : Option Value} {v : Value} (h : wR o = some v) : ∃ a, o = some (.ref a) ∧ v = .ref a := by
  unfold wR at h
  split at h
  · cases h; exact ⟨_, rfl, rfl⟩
  · cases h
theorem wI_inv {o : Option Value} {v : Value} (h : wI o = some v) : ∃ a, o = some (.int a) ∧ v = .int a := by
  unfold wI at h
  split at h
  · cases h; exact ⟨_, rfl, rfl⟩
  · cases h
theorem wL_inv {o : Option Value} {v : Value} (h : wL o = some v) : ∃ a, o = some (.long a) ∧ v = .long a := by
  unfold wL at h
  split at h
  · cases h; exact ⟨_, rfl, rfl⟩
  · cases h
theorem wF_inv {o : Option Value} {v : Value} (h : wF o = some v) : ∃ a, o = some (.float a) ∧ v = .float a := by
  unfold wF at h
  split at h
  · cases h; exact ⟨_, rfl, rfl⟩
  · cases h
theorem wD_inv {o : Option Value} {v : Value} (h : wD o = some v) : ∃ a, o = some (.double a) ∧ v = .double a := by
  unfold wD at h
  split at h
  · cases h; exact ⟨_, rfl, rfl⟩
  · cases h
/-- words that keep only as the tables do: calls among nest mates, arrays of references -/
def NX (U : State) : Prop := (∀ t ∈ cll, t.2.2.1 = 3 ∨ t.2.2.1 = 8 → va_Nw (.methodLinkNest (own t.1) t.2.1 (mi t.2.2.2.1).1 "PairGrammars") U) ∧ va_AO "PairGrammars$Row" U ∧ va_AO "PairGrammars$Grammar" U
theorem NX.warm {s U : State} (hW : s.WarmedH U.vm) (h : NX s) : NX U := ⟨fun t ht hk => va_Nw.warmM hW (h.1 t ht hk), h.2.1.moved hW.alike, h.2.2.moved hW.alike⟩
theorem NX.calling {U : State} (g : JFrame) (mk : MethodId) (a : Array Value) (h : NX U) : NX (U.calling g mk a) := ⟨fun t ht hk => va_Nw.same rfl rfl (h.1 t ht hk), h.2.1.moved (U := U.calling g mk a) (Vm.Alike.refl U.vm), h.2.2.moved (U := U.calling g mk a) (Vm.Alike.refl U.vm)⟩
end
section
section SND
variable {p : Program} {l : Launch} {e : Env} {R : Room} {s : State} {m : MethodId} {args : Array Value} {below : List Frame} {meth : Method} {c : Code} {H : Heap} {locs : List Loc} {cells slots : Nat} {Q : State → Prop}
variable {cc : ByteArray} {pc ln b sz nL : Nat} {ls : Array Slot} {rest : List Value} {lv : LV}
/-- the length that decode tells of an instruction -/
def sLen : Instr → Nat
  | .aload _ => 2
  | .iload _ => 2
  | .lload _ => 2
  | .dload _ => 2
  | .istore _ => 2
  | .astore _ => 2
  | .lstore _ => 2
  | .dstore _ => 2
  | .iinc _ _ => 3
  | .bipush _ => 2
  | .sipush _ => 3
  | .ldc _ => 2
  | .ldc2_w _ => 3
  | .goto _ => 3
  | .ifCond _ _ => 3
  | .if_icmp _ _ => 3
  | .getfield _ => 3
  | .putfield _ => 3
  | .new _ => 3
  | .anewarray _ => 3
  | .newarray _ => 2
  | .invokevirtual _ => 3
  | .invokespecial _ => 3
  | .invokestatic _ => 3
  | _ => 1
theorem snA (hx : p.tables.exec = Jvm.exec) (hb : c.code = cc) {i : Instr} {v : Value} (hd : decode cc pc = .ok (i, ln)) (hl : ln = sLen i) (h : gA i lv = some v) (hls : lv_has ls nL (lv.map (cvp b sz)))
    (k : W p l e R s m args below meth c H locs cells slots Q (F0 m (pc + ln) ls (cv b sz v :: rest))) : W p l e R s m args below meth c H locs cells slots Q (F0 m pc ls rest) := by
  subst hl
  unfold gA at h
  split at h
  · obtain ⟨a, h1, rfl⟩ := wR_inv h; exact lv_aload_n hx hb hd rfl (lget_has hls h1) k
  · obtain ⟨a, h1, rfl⟩ := wR_inv h; exact lv_aload hx hb hd (lget_has hls h1) k
  · obtain ⟨a, h1, rfl⟩ := wI_inv h; exact lv_iload_n hx hb hd rfl (lget_has hls h1) k
  · obtain ⟨a, h1, rfl⟩ := wI_inv h; exact lv_iload hx hb hd (lget_has hls h1) k
  · obtain ⟨a, h1, rfl⟩ := wL_inv h; exact lv_lload_n hx hb hd rfl (lget_has hls h1) k
  · obtain ⟨a, h1, rfl⟩ := wL_inv h; exact lv_lload hx hb hd (lget_has hls h1) k
  · obtain ⟨a, h1, rfl⟩ := wF_inv h; exact lv_fload_n hx hb hd rfl (lget_has hls h1) k
  · obtain ⟨a, h1, rfl⟩ := wD_inv h; exact lv_dload_n hx hb hd rfl (lget_has hls h1) k
  · obtain ⟨a, h1, rfl⟩ := wD_inv h; exact lv_dload hx hb hd (lget_has hls h1) k
  · cases h
/-- which places a store may have -/
def okB (i : Instr) (nL : Nat) : Prop := match i with
  | .istore_n k => k.val < nL
  | .fstore_n k => k.val < nL
  | .astore_n k => k.val < nL
  | .istore k => k < nL
  | .astore k => k < nL
  | .lstore k => k + 1 < nL
  | .dstore k => k + 1 < nL
  | .iinc k _ => k < nL
  | _ => True
theorem snB (hx : p.tables.exec = Jvm.exec) (hb : c.code = cc) {i : Instr} {lv' : LV} {sk sk' : List Value} (hd : decode cc pc = .ok (i, ln)) (hl : ln = sLen i) (h : gB i lv sk = some (lv', sk')) (hls : lv_has ls nL (lv.map (cvp b sz))) (hB : okB i nL)
    (k : ∀ ls' : Array Slot, lv_has ls' nL (lv'.map (cvp b sz)) → W p l e R s m args below meth c H locs cells slots Q (F0 m (pc + ln) ls' (sk'.map (cv b sz)))) : W p l e R s m args below meth c H locs cells slots Q (F0 m pc ls (sk.map (cv b sz))) := by
  subst hl
  unfold gB at h
  split at h
  · split at h
    · cases h; exact lv_istore_n hx hb hd rfl hls hB (lst1_eq b sz _ (.int _) lv) k
    · cases h
  · split at h
    · cases h; exact lv_istore hx hb hd hls hB (lst1_eq b sz _ (.int _) lv) k
    · cases h
  · split at h
    · cases h; exact lv_lstore hx hb hd hls hB (lst2_eq b sz _ (.long _) lv) k
    · cases h
  · split at h
    · cases h; exact lv_dstore hx hb hd hls hB (lst2_eq b sz _ (.double _) lv) k
    · cases h
  · split at h
    · cases h; exact lv_fstore_n hx hb hd rfl hls hB (lst1_eq b sz _ (.float _) lv) k
    · cases h
  · split at h
    · cases h; exact lv_astore_n hx hb hd rfl hls hB (lst1_eq b sz _ (.ref _) lv) k
    · cases h
  · split at h
    · cases h; exact lv_astore hx hb hd hls hB (lst1_eq b sz _ (.ref _) lv) k
    · cases h
  · rename_i kk n
    split at h
    · rename_i x hg
      cases h
      have hm : (kk, Value.int x) ∈ lv.map (cvp b sz) := List.mem_map.mpr ⟨(kk, .int x), lget_mem hg, rfl⟩
      obtain ⟨j, hj⟩ := List.getElem?_of_mem hm
      exact lv_iinc hx hb hd hls hj rfl hB (lst1_eq b sz _ (.int _) lv) k
    · cases h
  · cases h
def okC (i : Instr) (r1 r2 : Nat) (av : Array Value) (s : State) (o : String) : Prop := match i with
  | .bipush n => (Int8.ofInt n).toInt32 = Int32.ofInt n
  | .sipush n => (Int16.ofInt n).toInt32 = Int32.ofInt n
  | .ldc ix => r1 = 3 → (Cond.constant o ix (Int32.ofNat r2)).before av s = true
  | .ldc2_w ix => (r1 = 1 → (Cond.constantLong o ix (Int64.ofNat r2)).before av s = true) ∧ (r1 = 2 → (Cond.constantDouble o ix (UInt64.ofNat r2)).before av s = true)
  | _ => True
theorem snC (hx : p.tables.exec = Jvm.exec) (hb : c.code = cc) {o : String} (hown : s.vm.findClass o = some m.cls) {i : Instr} {r1 r2 : Nat} {sk sk' : List Value} (hd : decode cc pc = .ok (i, ln)) (hl : ln = sLen i) (h : gC i r1 r2 sk = some sk') (hC : okC i r1 r2 args s o)
    (k : W p l e R s m args below meth c H locs cells slots Q (F0 m (pc + ln) ls (sk'.map (cv b sz)))) : W p l e R s m args below meth c H locs cells slots Q (F0 m pc ls (sk.map (cv b sz))) := by
  subst hl
  unfold gC at h
  split at h
  · cases h; exact lv_iconst hx hb hd rfl k
  · cases h; exact lv_bipush hx hb hd hC k
  · cases h; exact lv_sipush hx hb hd hC k
  · cases h; exact lv_lconst hx hb hd rfl k
  · split at h
    · cases h; exact lv_ldc2 hx hb hown (hC.1 rfl) hd k
    · cases h; exact lv_ldc2d hx hb hown (hC.2 rfl) hd k
    · cases h
  · split at h
    · cases h; exact lv_ldc hx hb hown (hC rfl) hd k
    · cases h
  · rename_i n
    split at h
    · rename_i e0
      cases h
      have : n = 0 := Fin.ext e0
      subst this
      exact lv_dconst0 hx hb hd k
    · rename_i e0
      cases h
      have : n = 1 := by
        apply Fin.ext
        have h1 := n.isLt
        have h2 : n.val ≠ 0 := e0
        show n.val = 1
        omega
      subst this
      exact lv_dconst1 hx hb hd k
  · split at h
    · split at h
      · rename_i v r hc
        cases h; exact lv_dup hx hb hd (by rw [cv_cat]; exact cat_one hc) k
      · cases h
    · cases h
  · split at h
    · split at h
      · rename_i v w r hc
        cases h
        rw [Bool.or_eq_false_iff] at hc
        exact lv_dup2_11 hx hb hd (by rw [cv_cat]; exact cat_one hc.1) (by rw [cv_cat]; exact cat_one hc.2) k
      · cases h
    · cases h
  · split at h
    · split at h
      · rename_i v r hc
        cases h; exact lv_pop hx hb hd (by rw [cv_cat]; exact cat_one hc) k
      · cases h
    · cases h
  · cases h
theorem jI_inv {f : Int32 → Int32 → Int32} {sk sk' : List Value} (h : jI f sk = some sk') : ∃ x y r, sk = .int y :: .int x :: r ∧ sk' = .int (f x y) :: r := by
  unfold jI at h
  split at h
  · cases h; exact ⟨_, _, _, rfl, rfl⟩
  · cases h
theorem jL_inv {f : Int64 → Int64 → Int64} {sk sk' : List Value} (h : jL f sk = some sk') : ∃ x y r, sk = .long y :: .long x :: r ∧ sk' = .long (f x y) :: r := by
  unfold jL at h
  split at h
  · cases h; exact ⟨_, _, _, rfl, rfl⟩
  · cases h
theorem jS_inv {f : Int64 → Int32 → Int64} {sk sk' : List Value} (h : jS f sk = some sk') : ∃ x y r, sk = .int y :: .long x :: r ∧ sk' = .long (f x y) :: r := by
  unfold jS at h
  split at h
  · cases h; exact ⟨_, _, _, rfl, rfl⟩
  · cases h
theorem snD (hx : p.tables.exec = Jvm.exec) (hb : c.code = cc) {i : Instr} {sk sk' : List Value} (hd : decode cc pc = .ok (i, ln)) (hl : ln = sLen i) (h : gD i sk = some sk')
    (k : W p l e R s m args below meth c H locs cells slots Q (F0 m (pc + ln) ls (sk'.map (cv b sz)))) : W p l e R s m args below meth c H locs cells slots Q (F0 m pc ls (sk.map (cv b sz))) := by
  subst hl
  unfold gD at h
  split at h
  · obtain ⟨x, y, r, rfl, rfl⟩ := jI_inv h; exact lv_iadd hx hb hd k
  · obtain ⟨x, y, r, rfl, rfl⟩ := jI_inv h; exact lv_isub hx hb hd k
  · obtain ⟨x, y, r, rfl, rfl⟩ := jI_inv h; exact lv_imul hx hb hd k
  · obtain ⟨x, y, r, rfl, rfl⟩ := jI_inv h; exact lv_iand hx hb hd k
  · split at h
    · split at h
      · rename_i hc
        cases h; exact lv_irem hx hb hd (of_decide_eq_false hc) k
      · cases h
    · cases h
  · obtain ⟨x, y, r, rfl, rfl⟩ := jL_inv h; exact lv_ladd hx hb hd k
  · obtain ⟨x, y, r, rfl, rfl⟩ := jL_inv h; exact lv_lsub hx hb hd k
  · obtain ⟨x, y, r, rfl, rfl⟩ := jL_inv h; exact lv_land hx hb hd k
  · obtain ⟨x, y, r, rfl, rfl⟩ := jL_inv h; exact lv_lor hx hb hd k
  · obtain ⟨x, y, r, rfl, rfl⟩ := jS_inv h; exact lv_lshl hx hb hd rfl k
  · obtain ⟨x, y, r, rfl, rfl⟩ := jS_inv h; exact lv_lushr hx hb hd rfl k
  · split at h
    · cases h; exact W.lcmp hx hb hd k
    · cases h
  · split at h
    · cases h; exact lv_i2l hx hb hd rfl k
    · cases h
  · split at h
    · cases h; exact lv_l2i hx hb hd rfl k
    · cases h
  · cases h
theorem snE (hx : p.tables.exec = Jvm.exec) (hb : c.code = cc) {i : Instr} {sk sk' : List Value} (hd : decode cc pc = .ok (i, ln)) (hl : ln = sLen i) (h : gE i sk = some sk')
    (k : W p l e R s m args below meth c H locs cells slots Q (F0 m (pc + ln) ls (sk'.map (cv b sz)))) : W p l e R s m args below meth c H locs cells slots Q (F0 m pc ls (sk.map (cv b sz))) := by
  subst hl
  unfold gE at h
  split at h
  · split at h
    · cases h; exact lv_i2d hx hb hd k
    · cases h
  · split at h
    · cases h; exact lv_i2f hx hb hd k
    · cases h
  · split at h
    · cases h; exact lv_l2d hx hb hd k
    · cases h
  · split at h
    · cases h; exact lv_d2l hx hb hd k
    · cases h
  · split at h
    · split at h
      · rename_i hc
        have hq := of_decide_eq_true hc
        cases h; exact lv_f2d hx hb hd hq k
      · cases h
    · cases h
  · split at h
    · split at h
      · rename_i hc
        have hq := of_decide_eq_true hc
        cases h; exact lv_ddiv hx hb hd hq k
      · cases h
    · cases h
  · split at h
    · split at h
      · rename_i hc
        have hq := of_decide_eq_true hc
        cases h; exact lv_dmul hx hb hd hq k
      · cases h
    · cases h
  · split at h
    · split at h
      · rename_i hc
        have hq := of_decide_eq_true hc
        cases h; exact lv_fdiv hx hb hd hq k
      · cases h
    · cases h
  · split at h
    · cases h; exact lv_dcmp hx hb hd k
    · cases h
  · split at h
    · cases h; exact lv_fcmp hx hb hd k
    · cases h
  · cases h
theorem kI_inv {f : Int32 → Int32 → Bool} {sk sk' : List Value} {t : Bool} (h : kI f sk = some (t, sk')) : ∃ x y, sk = .int y :: .int x :: sk' ∧ f x y = t := by
  unfold kI at h
  split at h
  · cases h; exact ⟨_, _, rfl, rfl⟩
  · cases h
theorem k0_inv {f : Int32 → Bool} {sk sk' : List Value} {t : Bool} (h : k0 f sk = some (t, sk')) : ∃ x, sk = .int x :: sk' ∧ f x = t := by
  unfold k0 at h
  split at h
  · cases h; exact ⟨_, rfl, rfl⟩
  · cases h
/-- where a branch goes -/
def okG (i : Instr) (pc tg : Nat) : Prop := match i with
  | .goto off => (pc : Int) + off = (tg : Int)
  | .ifCond _ off => (pc : Int) + off = (tg : Int)
  | .if_icmp _ off => (pc : Int) + off = (tg : Int)
  | _ => True
theorem snG (hx : p.tables.exec = Jvm.exec) (hb : c.code = cc) {i : Instr} {tg : Nat} {t : Bool} {sk sk' : List Value} (hd : decode cc pc = .ok (i, ln)) (hl : ln = sLen i) (h : gG i sk = some (t, sk')) (hG : okG i pc tg)
    (k : W p l e R s m args below meth c H locs cells slots Q (F0 m (cond t tg (pc + ln)) ls (sk'.map (cv b sz)))) : W p l e R s m args below meth c H locs cells slots Q (F0 m pc ls (sk.map (cv b sz))) := by
  subst hl
  unfold gG at h
  split at h
  · cases h; exact lv_goto hx hb hd hG k
  · obtain ⟨x, rfl, rfl⟩ := k0_inv h; refine lv_if_eq hx hb hd hG (fun q => ?_) (fun q => ?_) <;> simpa only [q, decide_true, decide_false, not_false_eq_true, not_true_eq_false, cond_true, cond_false, sLen] using k
  · obtain ⟨x, rfl, rfl⟩ := k0_inv h; refine lv_if_ne hx hb hd hG (fun q => ?_) (fun q => ?_) <;> simpa only [q, decide_true, decide_false, not_false_eq_true, not_true_eq_false, cond_true, cond_false, sLen] using k
  · obtain ⟨x, rfl, rfl⟩ := k0_inv h; refine lv_if_lt hx hb hd hG (fun q => ?_) (fun q => ?_) <;> simpa only [q, decide_true, decide_false, not_false_eq_true, not_true_eq_false, cond_true, cond_false, sLen] using k
  · obtain ⟨x, rfl, rfl⟩ := k0_inv h; refine lv_if_ge hx hb hd hG (fun q => ?_) (fun q => ?_) <;> simpa only [q, decide_true, decide_false, not_false_eq_true, not_true_eq_false, cond_true, cond_false, sLen] using k
  · obtain ⟨x, rfl, rfl⟩ := k0_inv h; refine lv_if_gt hx hb hd hG (fun q => ?_) (fun q => ?_) <;> simpa only [q, decide_true, decide_false, not_false_eq_true, not_true_eq_false, cond_true, cond_false, sLen] using k
  · obtain ⟨x, rfl, rfl⟩ := k0_inv h; refine lv_if_le hx hb hd hG (fun q => ?_) (fun q => ?_) <;> simpa only [q, decide_true, decide_false, not_false_eq_true, not_true_eq_false, cond_true, cond_false, sLen] using k
  · obtain ⟨x, y, rfl, rfl⟩ := kI_inv h; refine lv_icmp_eq hx hb hd hG (fun q => ?_) (fun q => ?_) <;> simpa only [q, decide_true, decide_false, not_false_eq_true, not_true_eq_false, cond_true, cond_false, sLen] using k
  · obtain ⟨x, y, rfl, rfl⟩ := kI_inv h; refine lv_icmp_ne hx hb hd hG (fun q => ?_) (fun q => ?_) <;> simpa only [q, decide_true, decide_false, not_false_eq_true, not_true_eq_false, cond_true, cond_false, sLen] using k
  · obtain ⟨x, y, rfl, rfl⟩ := kI_inv h; refine lv_icmp_lt hx hb hd hG (fun q => ?_) (fun q => ?_) <;> simpa only [q, decide_true, decide_false, not_false_eq_true, not_true_eq_false, cond_true, cond_false, sLen] using k
  · obtain ⟨x, y, rfl, rfl⟩ := kI_inv h; refine lv_icmp_ge hx hb hd hG (fun q => ?_) (fun q => ?_) <;> simpa only [q, decide_true, decide_false, not_false_eq_true, not_true_eq_false, cond_true, cond_false, sLen] using k
  · obtain ⟨x, y, rfl, rfl⟩ := kI_inv h; refine lv_icmp_gt hx hb hd hG (fun q => ?_) (fun q => ?_) <;> simpa only [q, decide_true, decide_false, not_false_eq_true, not_true_eq_false, cond_true, cond_false, sLen] using k
  · obtain ⟨x, y, rfl, rfl⟩ := kI_inv h; refine lv_icmp_le hx hb hd hG (fun q => ?_) (fun q => ?_) <;> simpa only [q, decide_true, decide_false, not_false_eq_true, not_true_eq_false, cond_true, cond_false, sLen] using k
  · cases h
def okS (i : Instr) : Prop := match i with
  | .lookupswitch _ ps => (ps.toList.zip (ps.toList.drop 1)).all (fun (a, next) => a.1 < next.1) = true
  | _ => True
theorem jTo_inv {pc pc' : Nat} {off : Int} {r sk' : List Value} (h : jTo pc off r = some (pc', sk')) : (pc : Int) + off = (pc' : Int) ∧ r = sk' := by
  unfold jTo at h
  split at h
  · rename_i hc
    cases h
    exact ⟨(Int.toNat_of_nonneg (of_decide_eq_true hc)).symm, rfl⟩
  · cases h
theorem snS (hx : p.tables.exec = Jvm.exec) (hb : c.code = cc) {i : Instr} {pc' : Nat} {sk sk' : List Value} (hd : decode cc pc = .ok (i, ln)) (h : gS i pc sk = some (pc', sk')) (hS : okS i)
    (k : W p l e R s m args below meth c H locs cells slots Q (F0 m pc' ls (sk'.map (cv b sz)))) : W p l e R s m args below meth c H locs cells slots Q (F0 m pc ls (sk.map (cv b sz))) := by
  unfold gS at h
  split at h
  · split at h
    · split at h
      · rename_i hc
        obtain ⟨h1, rfl⟩ := jTo_inv h
        exact lv_tableOut hx hb hd (of_decide_eq_true hc) h1 k
      · rename_i hc
        have hc := of_decide_eq_false hc
        split at h
        · rename_i off ho
          obtain ⟨h1, rfl⟩ := jTo_inv h
          exact lv_tableIn hx hb hd (fun q => hc (Or.inl q)) (fun q => hc (Or.inr q)) ho h1 k
        · cases h
    · cases h
  · split at h
    · obtain ⟨h1, rfl⟩ := jTo_inv h
      exact lv_lookup hx hb hd hS rfl h1 k
    · cases h
  · cases h
end SND
end
section
def tyF (k a : Nat) : FieldType := (parseFieldDescriptor ((vcl k).2.1 a).2.2.1).getD .int
theorem vwCl_at {k : Nat} (h : k < 11) : vwCl[k]? = some (vcl k) := by
  rcases (show k = 0 ∨ k = 1 ∨ k = 2 ∨ k = 3 ∨ k = 4 ∨ k = 5 ∨ k = 6 ∨ k = 7 ∨ k = 8 ∨ k = 9 ∨ k = 10 by omega) with rfl | rfl | rfl | rfl | rfl | rfl | rfl | rfl | rfl | rfl | rfl <;> rfl
theorem inX_at {k : Nat} (h : k < 11) : ∀ w ∈ u_ws (vcl k).1 (vcl k).2.1 (vcl k).2.2, w ∈ lw_tbl := by
  rcases (show k = 0 ∨ k = 1 ∨ k = 2 ∨ k = 3 ∨ k = 4 ∨ k = 5 ∨ k = 6 ∨ k = 7 ∨ k = 8 ∨ k = 9 ∨ k = 10 by omega) with rfl | rfl | rfl | rfl | rfl | rfl | rfl | rfl | rfl | rfl | rfl
  · exact inX0
  · exact inX1
  · exact inX2
  · exact inX3
  · exact inX4
  · exact inX5
  · exact inX6
  · exact inX7
  · exact inX8
  · exact inX9
  · exact inX10
def tyOk (k a : Nat) : Prop := parseFieldDescriptor ((vcl k).2.1 a).2.2.1 = some (tyF k a) ∧ ((nth false (nth [] fkl k) a = true ∧ nth true (nth [] fkl k) a = true ∧ tyF k a = .int) ∨ (nth false (nth [] fkl k) a = false ∧ nth true (nth [] fkl k) a = false ∧ ((∃ n, tyF k a = .object n) ∨ ∃ t, tyF k a = .array t)))
theorem nth_dd {α : Type} {d d' : α} : ∀ {l : List α} {k : Nat}, k < l.length → nth d l k = nth d' l k
  | [], _, h => absurd h (Nat.not_lt_zero _)
  | _ :: _, 0, _ => rfl
  | _ :: l, k + 1, h => show nth d l k = nth d' l k from nth_dd (l := l) (k := k) (by simpa using h)
theorem nth_get {α : Type} {d : α} : ∀ {l : List α} {k : Nat}, k < l.length → l[k]? = some (nth d l k)
  | [], _, h => absurd h (Nat.not_lt_zero _)
  | _ :: _, 0, _ => rfl
  | _ :: l, k + 1, h => by
    show (_ :: l)[k + 1]? = some (nth d l k)
    rw [List.getElem?_cons_succ]
    exact nth_get (by simpa using h)
theorem cls_at {k : Nat} (h : k < 11) : (∀ w ∈ u_ws (vcl k).1 (vcl k).2.1 (vcl k).2.2, w ∈ gw) ∧ (∀ a, a < (vcl k).2.2 → ∀ b, b < (vcl k).2.2 → a ≠ b → ((vcl k).2.1 a).2.1 ≠ ((vcl k).2.1 b).2.1) ∧ (∀ a, a < (vcl k).2.2 → tyOk k a) ∧ (nth [] dfl k).length = (vcl k).2.2 ∧ nth [] dfl k = (nth [] fkl k).map (fun b => if b = true then Value.int 0 else Value.null) := by
  have h1 := List.all_eq_true.mp cls_ok k (List.mem_range.mpr h)
  have h2 := inX_at h
  unfold tyOk tyF
  rcases hv : vcl k with ⟨C, T, N⟩
  rw [hv] at h2
  simp only [clsOk, hv, Bool.and_eq_true, List.all_eq_true, decide_eq_true_eq, List.mem_range, Bool.or_eq_true, beq_iff_eq] at h1
  obtain ⟨⟨⟨⟨⟨q1, q2⟩, q3⟩, q4⟩, q5⟩, q6⟩ := h1
  refine ⟨fun w hw => List.mem_filter.mpr ⟨h2 w hw, q1 w hw⟩, fun a ha b hb hne => (q2 a ha b hb).resolve_left hne, fun a ha => ?_, q5, q6⟩
  have hd : nth false (nth [] fkl k) a = nth true (nth [] fkl k) a := nth_dd (by rw [q4]; exact ha)
  have q3 := q3 a ha
  show parseFieldDescriptor (T a).2.2.1 = some ((parseFieldDescriptor (T a).2.2.1).getD .int) ∧ _
  split at q3
  · rename_i e
    rw [e]
    exact ⟨rfl, Or.inl ⟨q3, hd ▸ q3, rfl⟩⟩
  · rename_i e
    rw [e]
    rw [Bool.not_eq_true'] at q3
    exact ⟨rfl, Or.inr ⟨hd ▸ q3, q3, Or.inl ⟨_, rfl⟩⟩⟩
  · rename_i e
    rw [e]
    rw [Bool.not_eq_true'] at q3
    exact ⟨rfl, Or.inr ⟨hd ▸ q3, q3, Or.inr ⟨_, rfl⟩⟩⟩
  · cases q3
theorem okV_fit {k a b sz : Nat} {v : Value} (h : tyOk k a) (hv : okV (nth false (nth [] fkl k) a) v = true) : narrow (tyF k a) (cv b sz v) = cv b sz v ∧ fits (tyF k a) (cv b sz v) = true := by
  rcases h.2 with ⟨h1, -, h3⟩ | ⟨h1, -, h3⟩
  · rw [h1] at hv
    rw [h3]
    cases v <;> first | exact ⟨rfl, rfl⟩ | cases hv
  · rw [h1] at hv
    rcases h3 with ⟨n, h3⟩ | ⟨t, h3⟩ <;> rw [h3] <;> cases v <;> first | exact ⟨rfl, rfl⟩ | cases hv
theorem dfl_at {k : Nat} (h : k < 11) (b sz : Nat) : ∀ j, j < (vcl k).2.2 → defaultValue (tyF k j) = vp_V ((nth [] dfl k).map (cv b sz)) j := by
  intro j hj
  obtain ⟨-, -, h3, h4, h5⟩ := cls_at h
  have hl : j < (nth [] fkl k).length := by
    have := congrArg List.length h5
    rw [List.length_map] at this
    omega
  have hg := nth_get (d := false) hl
  unfold vp_V
  rw [h5, List.getD_eq_getElem?_getD, List.getElem?_map, List.getElem?_map, hg]
  rcases (h3 j hj).2 with ⟨e1, -, e3⟩ | ⟨e1, -, e3⟩
  · rw [e1, e3]; rfl
  · rw [e1]
    rcases e3 with ⟨n, e3⟩ | ⟨t, e3⟩ <;> rw [e3] <;> rfl
section SNM
variable {p : Program} {l : Launch} {e : Env} {R : Room} {s : State} {m : MethodId} {args : Array Value} {below : List Frame} {meth : Method} {c : Code} {H : Heap} {locs : List Loc} {cells slots : Nat} {Q : State → Prop}
variable {cc : ByteArray} {pc ln b sz nL L : Nat} {ls : Array Slot} {rest : List Value} {lv : LV} {D : va_G} {cy : Nat → ClassId} {xs : Nat → Int32} {M : PM} {r1 r2 : Nat} {sk sk' : List Value} {M' : PM}
/-- the heap against the memory -/
def Wd (D : va_G) (cy : Nat → ClassId) (b sz L : Nat) (xs : Nat → Int32) (H0 : Heap) (M : PM) (H : Heap) (locs : List Loc) : Prop :=
  va_P D vwCl (wsM cy b sz M) H ∧ va_S (fun q : Nat => sz ≤ q) H0 H locs ∧ M[0]? = some (.inl (0, L, .inl xs))
/-- what a method's place knows -/
def Cx (p : Program) (s : State) (m : MethodId) (args : Array Value) (meth : Method) (c : Code) (q : MI) (D : va_G) (cy : Nat → ClassId) (b sz L : Nat) (xs : Nat → Int32) : Prop :=
  p.tables.exec = Jvm.exec ∧ c.code = q.2.1 ∧ c.maxLocals = q.2.2.1 ∧ s.vm.findClass q.1.cls = some m.cls ∧ (∀ w ∈ gw, w.before args s = true) ∧ va_K D vwCl (tyl cy) s ∧ va_X b L xs s s.heap ∧ b < sz ∧ sz ≤ s.heap.size ∧ NX s ∧ (q.1.name = "<init>" → meth.name = "<init>")
theorem mem0 {a : Nat} {x : Nat × List Value} (h0 : M[0]? = some (.inl (0, L, .inl xs))) (h : M[a]? = some (.inr x)) : ∃ j, a = j + 1 := by
  cases a with
  | zero => rw [h0] at h; cases h
  | succ j => exact ⟨j, rfl⟩
theorem set0 {j : Nat} {x : PC} (h0 : M[0]? = some (.inl (0, L, .inl xs))) : (M.set (j + 1) x)[0]? = some (.inl (0, L, .inl xs)) := by
  rw [List.getElem?_set_ne (by omega)]; exact h0
theorem app0 {x : PC} (h0 : M[0]? = some (.inl (0, L, .inl xs))) : (M ++ [x])[0]? = some (.inl (0, L, .inl xs)) := by
  have := (List.getElem?_eq_some_iff.mp h0).1
  rw [List.getElem?_append_left this]; exact h0
def szC : PC → Nat
  | .inl (_, n, _) => n
  | .inr (_, fs) => fs.length
def szM (M : PM) : Nat := (M.map szC).sum
theorem szM_app {x : PC} : szM (M ++ [x]) = szM M + szC x := by simp [szM]
/-- fields' links; what is made -/
def okF (i : Instr) (r1 r2 : Nat) (av : Array Value) (s : State) (q : MI) : Prop := match i with
  | .getfield ix => r1 < 11 ∧ r2 < (vcl r1).2.2 ∧ (Cond.fieldLink q.1.cls ix ((vcl r1).2.1 r2).1 ((vcl r1).2.1 r2).2.1 ((vcl r1).2.1 r2).2.2.1).before av s = true
  | .putfield ix => r1 < 11 ∧ r2 < (vcl r1).2.2 ∧ (Cond.fieldLink q.1.cls ix ((vcl r1).2.1 r2).1 ((vcl r1).2.1 r2).2.1 ((vcl r1).2.1 r2).2.2.1).before av s = true ∧ (finF r1 r2 = true → q.1.name = "<init>" ∧ ((vcl r1).2.1 r2).1 = q.1.cls)
  | .new ix => r1 < 11 ∧ (Cond.classLink q.1.cls ix (vcl r1).1).before av s = true ∧ (Cond.instantiable (vcl r1).1 (vcl r1).2.2).before av s = true ∧ (Cond.initialized (vcl r1).1).before av s = true
  | .anewarray ix => (r1 = 2 ∧ (Cond.classLink q.1.cls ix "PairGrammars$Row").before av s = true) ∨ (r1 = 3 ∧ (Cond.classLink q.1.cls ix "PairGrammars$Grammar").before av s = true)
  | _ => True
theorem W.bound {g : JFrame} (k : H.size ≤ s.heap.size + cells → W p l e R s m args below meth c H locs cells slots Q g) : W p l e R s m args below meth c H locs cells slots Q g := by
  intro T hT X
  refine k ?_ T hT X
  have h := X.same.2.2.1
  rw [← hT]
  exact h
theorem sz_low {H0 : Nat} (hP : va_P D vwCl (wsM cy b sz M) H) (hM : 1 ≤ M.length) (h0 : H0 ≤ H.size) (hcz : H0 + cells + 1 = sz + M.length) : M.length = 1 ∧ sz = H0 + cells ∧ H0 ≤ H.size ∨ sz + M.length ≤ H.size + 1 := by
  by_cases h1 : M.length = 1
  · exact Or.inl ⟨h1, by omega, h0⟩
  · right
    have hl : M.length - 2 + 1 < M.length := by omega
    have hg := List.getElem?_eq_getElem hl
    have := (hP _ _ (wsM_at hg)).lt
    show sz + M.length ≤ H.size + 1
    have h3 : sz + (M.length - 2) < H.size := this
    omega
theorem szM_set {j : Nat} {x y : PC} (hM : M[j]? = some x) (h : szC y = szC x) : szM (M.set j y) = szM M := by
  unfold szM
  rw [List.map_set, h]
  have e : (M.map szC).set j (szC x) = M.map szC := by
    apply List.ext_getElem?
    intro n
    by_cases hn : j = n
    · subst hn
      rw [List.getElem?_set_self (by rw [List.length_map]; exact (List.getElem?_eq_some_iff.mp hM).1), List.getElem?_map, hM]
      rfl
    · rw [List.getElem?_set_ne hn]
  rw [e]
theorem snF {q : MI} (X : Cx p s m args meth c q D cy b sz L xs) (w : Wd D cy b sz L xs s.heap M H locs) {i : Instr} (hd : decode q.2.1 pc = .ok (i, ln)) (hl : ln = sLen i) (h : gF i r1 r2 sk M = some (sk', M')) (hF : okF i r1 r2 args s q)
    (hcz : s.heap.size + cells + 1 = sz + M.length) (hc : cells + M'.length ≤ R.cells + M.length) (hsl : slots + szM M' ≤ R.slots + szM M)
    (k : ∀ (H1 : Heap) (locs1 : List Loc) (c1 s1 : Nat), Wd D cy b sz L xs s.heap M' H1 locs1 → s.heap.size + c1 + 1 = sz + M'.length → s1 + szM M = slots + szM M' → W p l e R s m args below meth c H1 locs1 c1 s1 Q (F0 m (pc + ln) ls (sk'.map (cv b sz)))) : W p l e R s m args below meth c H locs cells slots Q (F0 m pc ls (sk.map (cv b sz))) := by
  subst hl
  obtain ⟨hx, hb, hml, hown, hts, hK, hX, hbs, hss, hN, hini⟩ := X
  obtain ⟨hP, hS, h0⟩ := w
  have hD : va_D (fun q : Nat => sz ≤ q) (wsM cy b sz M) := wsM_D
  have hA : ∀ q : Nat, s.heap.size ≤ q → (fun q : Nat => sz ≤ q) q := fun q hq => Nat.le_trans hss hq
  unfold gF at h
  split at h
  · split at h
    · rename_i a r
      split at h
      · rename_i x ci fs hM
        split at h
        · rename_i hci
          have hci := Nat.eq_of_beq_eq_true hci
          subst hci
          split at h
          · rename_i v hv
            cases h
            obtain ⟨j, rfl⟩ := mem0 h0 hM
            obtain ⟨g1, g2, g3⟩ := hF
            refine va_get (q0 := j) (fs := fs.map (cv b sz)) (v := cv b sz v) hx hb hts (cls_at g1).1 hown hK hP (wsM_at hM) (vwCl_at g1) r2 g2 g3 (fun _ h9 => h9) (by rw [List.getElem?_map, hv]; rfl) hd ?_
            exact k H locs cells slots ⟨hP, hS, h0⟩ hcz rfl
          · cases h
        · cases h
      · cases h
    · cases h
  · split at h
    · rename_i v a r
      split at h
      · rename_i x ci fs hM
        split at h
        · rename_i hci
          simp only [Bool.and_eq_true, Nat.blt_eq] at hci
          obtain ⟨hci, hlt, hv⟩ := hci
          have hci := Nat.eq_of_beq_eq_true hci
          subst hci
          cases h
          obtain ⟨j, rfl⟩ := mem0 h0 hM
          obtain ⟨g1, g2, g3, g4⟩ := hF
          obtain ⟨t1, t2, t3, t4, t5⟩ := cls_at g1
          have ht := t3 r2 g2
          obtain ⟨f1, f2⟩ := okV_fit (b := b) (sz := sz) ht hv
          have hset : ∀ (H1 : Heap) (locs1 : List Loc), va_P D vwCl ((wsM cy b sz M).set j (sz + j, .inr (ci, (fs.map (cv b sz)).set r2 (cv b sz v)))) H1 → va_D (fun q : Nat => sz ≤ q) ((wsM cy b sz M).set j (sz + j, .inr (ci, (fs.map (cv b sz)).set r2 (cv b sz v)))) → va_S (fun q : Nat => sz ≤ q) s.heap H1 locs1 → W p l e R s m args below meth c H1 locs1 cells slots Q (F0 m (pc + 3) ls (sk'.map (cv b sz))) := by
            intro H1 locs1 hP1 _ hS1
            refine k H1 locs1 cells slots ⟨?_, hS1, set0 h0⟩ (by rw [List.length_set]; exact hcz) ?_
            · rw [← wsM_set]
              rw [← List.map_set] at hP1
              exact hP1
            · rw [szM_set hM (by simp [szC])]
          cases hf : finF ci r2 with
          | false =>
            refine va_put (q0 := j) (fs := fs.map (cv b sz)) (v := cv b sz v) hx hb hts (cls_at g1).1 (tyF ci) (fun a ha => (t3 a ha).1) t2 hown hK hP hD hS (wsM_at hM) (vwCl_at g1) r2 g2 g3 (fun _ h9 => h9) hf (ht.1) f1 f2 (by rw [List.length_map]; exact hlt) hd hset
          | true =>
            obtain ⟨g5, g6⟩ := g4 hf
            refine va_putF (q0 := j) (fs := fs.map (cv b sz)) (v := cv b sz v) hx hb hts (cls_at g1).1 (tyF ci) (fun a ha => (t3 a ha).1) t2 hown hK hP hD hS (wsM_at hM) (vwCl_at g1) r2 g2 g3 (fun _ h9 => h9) hf (hini g5) g6 (ht.1) f1 f2 (by rw [List.length_map]; exact hlt) hd hset
        · cases h
      · cases h
    · cases h
  · cases h
    rename_i ix
    obtain ⟨g1, g2, g3, g4⟩ := hF
    obtain ⟨t1, t2, t3, t4, t5⟩ := cls_at g1
    have hlen : (M ++ [Sum.inr (r1, nth [] dfl r1)]).length = M.length + 1 := by simp
    have hM1 : 1 ≤ M.length := by
      have := (List.getElem?_eq_some_iff.mp h0).1
      omega
    have hKn := hK.1 r1 _ (vwCl_at g1)
    refine W.bound fun hub => ?_
    have hsz : H.size = sz + (M.length - 1) := by
      rcases sz_low hP hM1 hS.1 hcz with ⟨q1, q2, q3⟩ | q <;> omega
    refine W.newcK hx hb hown g2 g3 g4 rfl hd (by rw [hlen] at hc; omega) (by rw [szM_app] at hsl; show slots + (vcl r1).2.2 ≤ R.slots; simp only [szC, t4] at hsl; omega) hKn.2.1 (h := sz + (M.length - 1)) hsz fun H1 kC hkC e1 z1 o1 => ?_
    have hk : ∀ (n : Nat) (x : Nat × va_E), (wsM cy b sz M)[n]? = some x → H1[x.1]? = H[x.1]? := fun n x hx => o1 x.1 (by have := (hP n x hx).lt; omega)
    have hP1 : va_P D vwCl (wsM cy b sz (M ++ [Sum.inr (r1, nth [] dfl r1)])) H1 := by
      rw [← wsM_push hM1]
      refine (hP.kept hk).app (fun n x hx => ?_)
      have hz : n < 1 := (List.getElem?_eq_some_iff.mp hx).1
      rw [show n = 0 by omega] at hx
      cases hx
      exact ⟨_, vwCl_at g1, (u_born (tyF r1) hts (cls_at g1).1 hKn hkC e1 (fun a ha => (t3 a ha).1)).to (dfl_at g1 b sz)⟩
    have e2 : ad b sz M.length = sz + (M.length - 1) := by
      cases hq : M.length with
      | zero => omega
      | succ n => rfl
    have K := k H1 locs (cells + 1) (slots + (vcl r1).2.2) ⟨hP1, ⟨Nat.le_trans hS.1 (by omega), fun x h1 h2 => (o1 x (by have := hS.1; omega)).trans (hS.2.1 x h1 h2), hS.2.2⟩, app0 h0⟩ (by rw [hlen]; omega) (by rw [szM_app]; simp only [szC, t4]; omega)
    rw [List.map_cons, show cv b sz (.ref M.length) = .ref (ad b sz M.length) from rfl, e2] at K
    exact K
  · cases h
end SNM
end
section
section SNQ
variable {p : Program} {l : Launch} {e : Env} {R : Room} {s : State} {m : MethodId} {args : Array Value} {below : List Frame} {meth : Method} {c : Code} {H : Heap} {locs : List Loc} {cells slots : Nat} {Q : State → Prop}
variable {cc : ByteArray} {pc ln b sz nL L : Nat} {ls : Array Slot} {rest : List Value} {lv : LV} {D : va_G} {cy : Nat → ClassId} {xs : Nat → Int32} {M : PM} {r1 r2 : Nat} {sk sk' : List Value} {M' : PM}
theorem inA_in {x : Int32} {n : Nat} (h : inA x n = true) : vp_in x n := by
  unfold inA at h
  have hq := of_decide_eq_true h
  exact hq
theorem szM_pos : ∀ {M : PM}, 1 ≤ M.length → ad b sz M.length = sz + (M.length - 1) := by
  intro M h
  cases hq : M.length with
  | zero => omega
  | succ n => rfl
/-- what arrays' instructions link -/
theorem snM {q : MI} (X : Cx p s m args meth c q D cy b sz L xs) (w : Wd D cy b sz L xs s.heap M H locs) {i : Instr} (hd : decode q.2.1 pc = .ok (i, ln)) (hl : ln = sLen i) (h : gM i r1 sk M = some (sk', M')) (hF : okF i r1 r2 args s q)
    (hcz : s.heap.size + cells + 1 = sz + M.length) (hc : cells + M'.length ≤ R.cells + M.length) (hsl : slots + szM M' ≤ R.slots + szM M)
    (k : ∀ (H1 : Heap) (locs1 : List Loc) (c1 s1 : Nat), Wd D cy b sz L xs s.heap M' H1 locs1 → s.heap.size + c1 + 1 = sz + M'.length → s1 + szM M = slots + szM M' → W p l e R s m args below meth c H1 locs1 c1 s1 Q (F0 m (pc + ln) ls (sk'.map (cv b sz)))) : W p l e R s m args below meth c H locs cells slots Q (F0 m pc ls (sk.map (cv b sz))) := by
  subst hl
  obtain ⟨hx, hb, hml, hown, hts, hK, hX, hbs, hss, hN, hini⟩ := X
  obtain ⟨hP, hS, h0⟩ := w
  have hD : va_D (fun q : Nat => sz ≤ q) (wsM cy b sz M) := wsM_D
  have hA : ∀ q : Nat, s.heap.size ≤ q → (fun q : Nat => sz ≤ q) q := fun q hq => Nat.le_trans hss hq
  have hbA : ¬ (fun q : Nat => sz ≤ q) b := Nat.not_le.mpr hbs
  have hbl : b < s.heap.size := Nat.lt_of_lt_of_le hbs hss
  have hM1 : 1 ≤ M.length := by
    have := (List.getElem?_eq_some_iff.mp h0).1
    omega
  have hst : ∀ (j : Nat) (x y : PC), M[j + 1]? = some x → szC y = szC x → ∀ (r : List Value), sk' = r → M' = M.set (j + 1) y → ∀ (H1 : Heap) (locs1 : List Loc), va_P D vwCl ((wsM cy b sz M).set j (sz + j, cE cy b sz y)) H1 → va_D (fun q : Nat => sz ≤ q) ((wsM cy b sz M).set j (sz + j, cE cy b sz y)) → va_S (fun q : Nat => sz ≤ q) s.heap H1 locs1 → W p l e R s m args below meth c H1 locs1 cells slots Q (F0 m (pc + sLen i) ls (r.map (cv b sz))) := by
    intro j x y hM hsz r hr hM' H1 locs1 hP1 _ hS1
    subst hr
    subst hM'
    refine k H1 locs1 cells slots ⟨?_, hS1, set0 h0⟩ (by rw [List.length_set]; exact hcz) (by rw [szM_set hM hsz])
    rw [← wsM_set]
    exact hP1
  unfold gM at h
  split at h
  · split at h
    · rename_i x a r
      split at h
      · rename_i o n f hM
        split at h
        · rename_i hi
          have hi := inA_in hi
          cases h
          cases a with
          | zero =>
            rw [h0] at hM
            cases hM
            exact va_sld hx hb hX hbl hbA hS hi hd (k H locs cells slots ⟨hP, hS, h0⟩ hcz rfl)
          | succ j =>
            exact va_iald hx hb hK hP j 0 (wsM_at hM) rfl hi hd (k H locs cells slots ⟨hP, hS, h0⟩ hcz rfl)
        · cases h
      · cases h
    · cases h
  · split at h
    · rename_i x a r
      split at h
      · rename_i o n f hM
        split at h
        · rename_i hi
          have hi := inA_in hi
          cases h
          cases a with
          | zero =>
            rw [h0] at hM
            cases hM
          | succ j =>
            exact va_zald hx hb hK hP j 1 (wsM_at hM) rfl hi hd (k H locs cells slots ⟨hP, hS, h0⟩ hcz rfl)
        · cases h
      · cases h
    · cases h
  · split at h
    · rename_i x a r
      split at h
      · rename_i o t n f hM
        split at h
        · rename_i hi
          rw [Bool.and_eq_true, Bool.or_eq_true] at hi
          obtain ⟨ht, hi⟩ := hi
          have hi := inA_in hi
          split at h
          · rename_i v hv
            cases h
            cases a with
            | zero =>
              rw [h0] at hM
              cases hM
            | succ j =>
              have K := k H locs cells slots ⟨hP, hS, h0⟩ hcz rfl
              rcases ht with ht | ht <;> have ht := Nat.eq_of_beq_eq_true ht <;> subst ht
              · refine va_aldq hx hb hK hP j 2 (C := "PairGrammars$Row") (wsM_at hM) rfl hi hd ?_
                rw [hv]
                exact K
              · refine va_aldq hx hb hK hP j 3 (C := "PairGrammars$Grammar") (wsM_at hM) rfl hi hd ?_
                rw [hv]
                exact K
          · cases h
        · cases h
      · cases h
    · cases h
  · split at h
    · rename_i v x a r
      split at h
      · rename_i o n f hM
        split at h
        · rename_i hi
          rw [Bool.and_eq_true] at hi
          obtain ⟨hi, ha⟩ := hi
          have hi := inA_in hi
          cases a with
          | zero => cases ha
          | succ j =>
            have e1 := Option.some.inj h
            have e2 := congrArg Prod.fst e1
            have e3 := congrArg Prod.snd e1
            exact va_iast hx hb hK hP hD hS j 0 (wsM_at hM) rfl hi hd (hst j _ (.inl (0, n, .inl (upd f x.toNatClampNeg v))) hM rfl r e2.symm e3.symm)
        · cases h
      · cases h
    · cases h
  · split at h
    · rename_i v x a r
      split at h
      · rename_i o n f hM
        split at h
        · rename_i hi
          rw [Bool.and_eq_true, Bool.or_eq_true] at hi
          obtain ⟨hi, hv⟩ := hi
          have hi := inA_in hi
          cases a with
          | zero =>
            rw [h0] at hM
            cases hM
          | succ j =>
            have e1 := Option.some.inj h
            have e2 := congrArg Prod.fst e1
            have e3 := congrArg Prod.snd e1
            have en : vp_nar .boolean v = v := by
              rcases hv with hv | hv <;> have hv := of_decide_eq_true hv <;> subst hv <;> decide
            have K := hst j _ (.inl (1, n, .inl (upd f x.toNatClampNeg (vp_nar .boolean v)))) hM rfl r e2.symm (by rw [en]; exact e3.symm)
            exact va_zast hx hb hK hP hD hS j 1 (wsM_at hM) rfl hi hd K
        · cases h
      · cases h
    · cases h
  · split at h
    · rename_i v x a r
      split at h
      · rename_i o1 o2 t n f ci fs hM hV
        split at h
        · rename_i hi
          rw [Bool.and_eq_true, Bool.or_eq_true, Bool.and_eq_true, Bool.and_eq_true] at hi
          obtain ⟨ht, hi⟩ := hi
          have hi := inA_in hi
          obtain ⟨jv, rfl⟩ := mem0 h0 hV
          cases a with
          | zero =>
            rw [h0] at hM
            cases hM
          | succ j =>
            have e1 := Option.some.inj h
            have e2 := congrArg Prod.fst e1
            have e3 := congrArg Prod.snd e1
            have K := hst j _ (.inl (t, n, .inr (.inr (.inr (.inr (va_up f x.toNatClampNeg (some (jv + 1)))))))) hM rfl r e2.symm e3.symm
            have eu : (fun k => (va_up f x.toNatClampNeg (some (jv + 1)) k).map (ad b sz)) = va_up (fun k => (f k).map (ad b sz)) x.toNatClampNeg (some (sz + jv)) := by
              funext n
              unfold va_up
              split <;> rfl
            have K2 : ∀ (H1 : Heap) (locs1 : List Loc), va_P D vwCl ((wsM cy b sz M).set j (sz + j, .inl (cy t, n, .inr (.inr (.inr (.inr (va_up (fun k => (f k).map (ad b sz)) x.toNatClampNeg (some (sz + jv))))))))) H1 → va_D (fun q : Nat => sz ≤ q) ((wsM cy b sz M).set j (sz + j, .inl (cy t, n, .inr (.inr (.inr (.inr (va_up (fun k => (f k).map (ad b sz)) x.toNatClampNeg (some (sz + jv))))))))) → va_S (fun q : Nat => sz ≤ q) s.heap H1 locs1 → W p l e R s m args below meth c H1 locs1 cells slots Q (F0 m (pc + 1) ls (r.map (cv b sz))) := by
              rw [← eu]
              exact K
            rcases ht with ⟨ht, hci⟩ | ⟨ht, hci⟩ <;> have ht := Nat.eq_of_beq_eq_true ht <;> have hci := Nat.eq_of_beq_eq_true hci <;> subst ht <;> subst hci
            · exact va_astq hx hb hK hP hD hS j 2 jv 6 (r := vcl 6) (wsM_at hM) rfl (wsM_at hV) rfl hi hd K2
            · exact va_astq hx hb hK hP hD hS j 3 jv 0 (r := vcl 0) (wsM_at hM) rfl (wsM_at hV) rfl hi hd K2
        · cases h
      · cases h
    · cases h
  · split at h
    · rename_i a r
      split at h
      · rename_i o t n f hM
        split at h
        · rename_i ht
          rw [Nat.blt_eq] at ht
          cases h
          have K := k H locs cells slots ⟨hP, hS, h0⟩ hcz rfl
          cases a with
          | zero =>
            rw [h0] at hM
            cases hM
            refine va_slen hx hb hX hbl hbA hS hd ?_
            rw [← Int32.ofInt_eq_ofNat]
            exact K
          | succ j =>
            have hy : ∃ ty, (tyl cy)[t]? = some (cy t, ty) := by
              rcases (show t = 0 ∨ t = 1 ∨ t = 2 ∨ t = 3 by omega) with rfl | rfl | rfl | rfl <;> exact ⟨_, rfl⟩
            obtain ⟨ty, hy⟩ := hy
            have hn : (cvA b sz (n, f)).1 = n := by
              rcases f with f | f | f | f | f <;> rfl
            refine va_alen hx hb hK hP j t (wsM_at hM) hy ?_ hd K
            rw [hn, Int32.ofInt_eq_ofNat]
        · cases h
      · cases h
    · cases h
  · split at h
    · rename_i x r
      split at h
      · cases h
      · rename_i hg
        rw [Bool.or_eq_false_iff] at hg
        obtain ⟨hg1, hg2⟩ := hg
        have hg1 := of_decide_eq_false hg1
        have hg3 : x.toNatClampNeg ≤ 134217728 := by
          rcases Nat.lt_or_ge 134217728 x.toNatClampNeg with q | q
          · rw [← Nat.blt_eq, hg2] at q
            cases q
          · exact q
        have fin : ∀ (t : Nat) (ty : FieldType) (H1 : Heap) (cA : ClassId), (tyl cy)[t]? = some (cy t, ty) → vp_cell (cy t) (x.toNatClampNeg, .inl (fun _ => 0)) = arrV (cy t) x.toNatClampNeg (fun _ => defaultValue ty) → s.vm.findClass ("[" ++ ty.toString) = some (cy t) → sk' = .ref M.length :: r → M' = M ++ [.inl (t, x.toNatClampNeg, .inl (fun _ => 0))] → H1[sz + (M.length - 1)]? = some (arrV cA x.toNatClampNeg (fun _ => defaultValue ty)) → H1.size = sz + (M.length - 1) + 1 → H.size = sz + (M.length - 1) → (∀ q, q < sz + (M.length - 1) → H1[q]? = H[q]?) → s.vm.findClass ("[" ++ ty.toString) = some cA → W p l e R s m args below meth c H1 locs (cells + 1) (slots + x.toNatClampNeg) Q (F0 m (pc + 2) ls (.ref (sz + (M.length - 1)) :: r.map (cv b sz))) := by
          intro t ty H1 cA hy hcell hRA hsk hM' e1 z1 hsz o1 hNm
          subst hsk
          subst hM'
          have ec : cA = cy t := Option.some.inj (hNm.symm.trans hRA)
          subst ec
          have hk : ∀ (n : Nat) (x : Nat × va_E), (wsM cy b sz M)[n]? = some x → H1[x.1]? = H[x.1]? := fun n x hx => o1 x.1 (by have := (hP n x hx).lt; omega)
          have hP1 : va_P D vwCl (wsM cy b sz (M ++ [.inl (t, x.toNatClampNeg, .inl (fun _ => 0))])) H1 := by
            rw [← wsM_push hM1]
            refine (hP.kept hk).app (fun n x hx => ?_)
            have hz : n < 1 := (List.getElem?_eq_some_iff.mp hx).1
            rw [show n = 0 by omega] at hx
            cases hx
            rw [← hcell] at e1
            exact e1
          have K := k H1 locs (cells + 1) (slots + x.toNatClampNeg) ⟨hP1, ⟨Nat.le_trans hS.1 (by omega), fun x h1 h2 => (o1 x (by have := hS.1; omega)).trans (hS.2.1 x h1 h2), hS.2.2⟩, app0 h0⟩ (by rw [List.length_append]; simp; omega) (by rw [szM_app]; simp only [szC]; omega)
          rw [List.map_cons, show cv b sz (.ref M.length) = .ref (ad b sz M.length) from rfl, szM_pos hM1] at K
          exact K
        split at h
        · have e1 := Option.some.inj h
          have e2 := (congrArg Prod.fst e1).symm
          have e3 := (congrArg Prod.snd e1).symm
          have e2 : sk' = .ref M.length :: r := e2
          have e3 : M' = M ++ [.inl (0, x.toNatClampNeg, .inl (fun _ => 0))] := e3
          have hlen : M'.length = M.length + 1 := by rw [e3]; simp
          have hszm : szM M' = szM M + x.toNatClampNeg := by rw [e3, szM_app]; rfl
          refine W.bound fun hub => ?_
          have hsz : H.size = sz + (M.length - 1) := by
            rcases sz_low hP hM1 hS.1 hcz with ⟨q1, q2, q3⟩ | q <;> omega
          refine va_newaK hx hb (atype := .int) (hts _ (wAt_in arrI_ok)) rfl hd rfl hg1 rfl (by show x.toNatClampNeg * 4 ≤ 536870912; omega) (by omega) (by omega) hsz fun H1 cA f1 f2 f3 f4 f5 => ?_
          exact fin 0 .int H1 cA rfl rfl (hK.2 0 _ rfl).2 e2 e3 f1 f2 hsz f3 f5
        · have e1 := Option.some.inj h
          have e2 := (congrArg Prod.fst e1).symm
          have e3 := (congrArg Prod.snd e1).symm
          have e2 : sk' = .ref M.length :: r := e2
          have e3 : M' = M ++ [.inl (1, x.toNatClampNeg, .inl (fun _ => 0))] := e3
          have hlen : M'.length = M.length + 1 := by rw [e3]; simp
          have hszm : szM M' = szM M + x.toNatClampNeg := by rw [e3, szM_app]; rfl
          refine W.bound fun hub => ?_
          have hsz : H.size = sz + (M.length - 1) := by
            rcases sz_low hP hM1 hS.1 hcz with ⟨q1, q2, q3⟩ | q <;> omega
          refine va_newaK hx hb (atype := .boolean) (hts _ (wAt_in arrZ_ok)) rfl hd rfl hg1 rfl (by show x.toNatClampNeg * 1 ≤ 536870912; omega) (by omega) (by omega) hsz fun H1 cA f1 f2 f3 f4 f5 => ?_
          exact fin 1 .boolean H1 cA rfl rfl (hK.2 1 _ rfl).2 e2 e3 f1 f2 hsz f3 f5
        · cases h
    · cases h
  · rename_i ix
    split at h
    · rename_i x r
      split at h
      · cases h
      · rename_i hg
        rw [Bool.or_eq_false_iff] at hg
        obtain ⟨hg1, hg2⟩ := hg
        have hg1 := of_decide_eq_false hg1
        have hg3 : x.toNatClampNeg ≤ 134217728 := by
          rcases Nat.lt_or_ge 134217728 x.toNatClampNeg with q | q
          · rw [← Nat.blt_eq, hg2] at q
            cases q
          · exact q
        obtain ⟨e2, e3⟩ := Prod.mk.inj (Option.some.inj h)
        subst e2
        subst e3
        have hlen : (M ++ [(Sum.inl (r1, x.toNatClampNeg, .inr (.inr (.inr (.inr (fun _ => none))))) : PC)]).length = M.length + 1 := by simp
        have hszm : szM (M ++ [(Sum.inl (r1, x.toNatClampNeg, .inr (.inr (.inr (.inr (fun _ => none))))) : PC)]) = szM M + x.toNatClampNeg := by rw [szM_app]; rfl
        refine W.bound fun hub => ?_
        have hsz : H.size = sz + (M.length - 1) := by
          rcases sz_low hP hM1 hS.1 hcz with ⟨q1, q2, q3⟩ | q <;> omega
        have fin : ∀ (C : String), (Cond.classLink q.1.cls ix C).before args s = true → va_AO C s → (tyl cy)[r1]? = some (cy r1, .object C) → W p l e R s m args below meth c H locs cells slots Q (F0 m pc ls (.int x :: r.map (cv b sz))) := by
          intro C hcl hAO hty
          obtain ⟨kA0, comp0, -, -, -, hRA⟩ := (hK.2 r1 _ hty).2
          refine W.anew hx hb hown hcl (va_AO.use hAO) rfl hd rfl hg1 (by omega) (by omega) (by omega) fun cA kA comp f1 f2 f3 f4 => ?_
          have ec : cA = cy r1 := Option.some.inj (f1.symm.trans hRA)
          subst ec
          generalize hH1 : H.push ({ cls := cy r1, slots := Array.replicate x.toNatClampNeg .null, vm := .none } : Cell) = H1
          have z1 : H1.size = H.size + 1 := by rw [← hH1, Array.size_push]
          have e1 : H1[H.size]? = some (arrV (cy r1) x.toNatClampNeg (fun _ => .null)) := by rw [← hH1, Array.getElem?_push_size, ← arrV_new]
          have o1 : ∀ q : Nat, q < H.size → H1[q]? = H[q]? := fun q hq => by rw [← hH1, Array.getElem?_push, if_neg (Nat.ne_of_lt hq)]
          have hk : ∀ (n : Nat) (x : Nat × va_E), (wsM cy b sz M)[n]? = some x → H1[x.1]? = H[x.1]? := fun n x hx => o1 x.1 ((hP n x hx).lt)
          have hP1 : va_P D vwCl (wsM cy b sz (M ++ [.inl (r1, x.toNatClampNeg, .inr (.inr (.inr (.inr (fun _ => none)))))])) H1 := by
            rw [← wsM_push hM1]
            refine (hP.kept hk).app (fun n x hx => ?_)
            have hz : n < 1 := (List.getElem?_eq_some_iff.mp hx).1
            rw [show n = 0 by omega] at hx
            cases hx
            rw [hsz] at e1
            exact e1
          have K := k H1 locs (cells + 1) (slots + x.toNatClampNeg) ⟨hP1, ⟨Nat.le_trans hS.1 (by omega), fun x h1 h2 => (o1 x (by have := hS.1; omega)).trans (hS.2.1 x h1 h2), hS.2.2⟩, app0 h0⟩ (by rw [hlen]; omega) (by rw [hszm]; omega)
          rw [List.map_cons, show cv b sz (.ref M.length) = .ref (ad b sz M.length) from rfl, szM_pos hM1, ← hsz] at K
          exact K
        rcases hF with ⟨rfl, hF⟩ | ⟨rfl, hF⟩
        · exact fin "PairGrammars$Row" hF hN.2.1 rfl
        · exact fin "PairGrammars$Grammar" hF hN.2.2 rfl
    · cases h
  · cases h
end SNQ
end
section
/-- what a run leaves of the memory -/
def Mono (M M' : PM) : Prop := (∀ z, M[0]? = some (.inl (0, z)) → M'[0]? = some (.inl (0, z))) ∧ M.length ≤ M'.length ∧ szM M ≤ szM M'
theorem Mono.rf {M : PM} : Mono M M := ⟨fun _ h => h, Nat.le_refl _, Nat.le_refl _⟩
theorem Mono.tr {M M1 M2 : PM} (h : Mono M M1) (k : Mono M1 M2) : Mono M M2 := ⟨fun z hz => k.1 z (h.1 z hz), Nat.le_trans h.2.1 k.2.1, Nat.le_trans h.2.2 k.2.2⟩
theorem Mono.put {M : PM} {a : Nat} {x y : PC} (hM : M[a]? = some x) (hs : szC y = szC x) (h0 : a = 0 → ∀ z, x ≠ .inl (0, z)) : Mono M (M.set a y) := by
  refine ⟨fun z hz => ?_, by rw [List.length_set]; exact Nat.le_refl _, by rw [szM_set hM hs]; exact Nat.le_refl _⟩
  by_cases ha : a = 0
  · subst ha
    rw [hz] at hM
    cases hM
    exact absurd rfl (h0 rfl z)
  · rw [List.getElem?_set_ne ha]; exact hz
theorem Mono.push {M : PM} {x : PC} : Mono M (M ++ [x]) := by
  refine ⟨fun z hz => ?_, by simp, by rw [szM_app]; omega⟩
  have := (List.getElem?_eq_some_iff.mp hz).1
  rw [List.getElem?_append_left this]; exact hz
theorem gF_mono {i : Instr} {r1 r2 : Nat} {sk sk' : List Value} {M M' : PM} (h : gF i r1 r2 sk M = some (sk', M')) : Mono M M' := by
  unfold gF at h
  split at h
  · split at h
    · split at h
      · split at h
        · split at h
          · cases h; exact Mono.rf
          · cases h
        · cases h
      · cases h
    · cases h
  · split at h
    · split at h
      · rename_i hM
        split at h
        · cases h; exact Mono.put hM (by simp [szC]) (fun _ z e => by cases e)
        · cases h
      · cases h
    · cases h
  · cases h; exact Mono.push
  · cases h
theorem gM_mono {i : Instr} {r1 : Nat} {sk sk' : List Value} {M M' : PM} (h : gM i r1 sk M = some (sk', M')) : Mono M M' := by
  unfold gM at h
  split at h
  · split at h
    · split at h
      · split at h
        · cases h; exact Mono.rf
        · cases h
      · cases h
    · cases h
  · split at h
    · split at h
      · split at h
        · cases h; exact Mono.rf
        · cases h
      · cases h
    · cases h
  · split at h
    · split at h
      · split at h
        · split at h
          · cases h; exact Mono.rf
          · cases h
        · cases h
      · cases h
    · cases h
  · split at h
    · split at h
      · rename_i hM
        split at h
        · rename_i hi
          rw [Bool.and_eq_true] at hi
          cases h
          exact Mono.put hM rfl (fun e => by rw [e] at hi; cases hi.2)
        · cases h
      · cases h
    · cases h
  · split at h
    · split at h
      · rename_i hM
        split at h
        · cases h
          exact Mono.put hM rfl (fun _ z e => by cases e)
        · cases h
      · cases h
    · cases h
  · split at h
    · split at h
      · rename_i hM _
        split at h
        · rename_i hi
          cases h
          rw [Bool.and_eq_true] at hi
          exact Mono.put hM rfl (fun _ z e => by cases e; exact absurd hi.1 Bool.false_ne_true)
        · cases h
      · cases h
    · cases h
  · split at h
    · split at h
      · split at h
        · cases h; exact Mono.rf
        · cases h
      · cases h
    · cases h
  · split at h
    · split at h
      · cases h
      · split at h
        · cases h; exact Mono.push
        · cases h; exact Mono.push
        · cases h
    · cases h
  · split at h
    · split at h
      · cases h
      · cases h; exact Mono.push
    · cases h
  · cases h
theorem gN_mono {i : Instr} {kd : Nat} {sk sk' : List Value} {M M' : PM} (h : gN i kd sk M = some (sk', M')) : Mono M M' := by
  unfold gN at h
  split at h
  · split at h
    · split at h
      · split at h
        · cases h; exact Mono.rf
        · cases h
      · cases h
    · cases h
  · split at h
    · split at h
      · split at h
        · rename_i hM1 hM
          split at h
          · cases h
          · rename_i hi
            simp only [Bool.or_eq_false_iff] at hi
            cases h
            exact Mono.put hM rfl (fun e => by rw [e] at hi; cases hi.1.1.2)
        · cases h
      · cases h
    · split at h
      · split at h
        · cases h; exact Mono.rf
        · cases h
      · cases h
    · split at h
      · split at h
        · cases h; exact Mono.rf
        · cases h
      · cases h
    · cases h
  · cases h
theorem gH_mono {i : Instr} {tg r1 r2 : Nat} {sk sk' : List Value} {M M' : PM} (h : gH i tg r1 r2 sk M = some (sk', M')) : Mono M M' := by
  unfold gH at h
  split at h
  · rename_i hg
    cases h
    exact gF_mono hg
  · split at h
    · rename_i hg
      cases h
      exact gM_mono hg
    · exact gN_mono h
theorem stp_mono {c : MM} {x x' : CF} (h : stp c x = some (.inl x')) : Mono x.2.2.2 x'.2.2.2 := by
  obtain ⟨pc, lv, sk, M⟩ := x
  dsimp only [stp] at h
  split at h
  · cases h
  · split at h
    · cases h; exact Mono.rf
    · split at h
      · cases h; exact Mono.rf
      · split at h
        · cases h; exact Mono.rf
        · split at h
          · rename_i hg
            cases h
            exact gH_mono hg
          · split at h
            · cases h; exact Mono.rf
            · split at h
              · cases h
              · split at h <;> cases h
theorem run_mono : ∀ (n : Nat) (c : MM) (x : CF) (v : Option Value) (M' : PM), run n c x = some (v, M') → Mono x.2.2.2 M'
  | 0, _, _, _, _, h => by cases h
  | n + 1, c, x, v, M', h => by
    unfold run at h
    split at h
    · cases h
    · rename_i x' hs
      exact (stp_mono hs).tr (run_mono n c x' v M' h)
    · cases h; exact Mono.rf
    · split at h
      · cases h
      · split at h
        · cases h
        · rename_i v1 M1 h1
          exact (run_mono n _ _ v1 M1 h1).tr (run_mono n c _ v M' h)
end
section
section SNZ
variable {p : Program} {l : Launch} {e : Env} {R : Room} {s : State} {m : MethodId} {args : Array Value} {below : List Frame} {meth : Method} {c : Code} {H : Heap} {locs : List Loc} {cells slots : Nat} {Q : State → Prop}
variable {cc : ByteArray} {pc ln b sz nL L : Nat} {ls : Array Slot} {rest : List Value} {lv : LV} {D : va_G} {cy : Nat → ClassId} {xs : Nat → Int32} {M : PM} {r1 r2 : Nat} {sk sk' : List Value} {M' : PM}
theorem catS_map (b sz : Nat) : ∀ r : List Value, ((r.map (cv b sz)).map fun v => v.category).sum = catS r
  | [] => rfl
  | v :: r => by
    have ih := catS_map b sz r
    unfold catS at ih ⊢
    simp only [List.map_cons, List.sum_cons, cv_cat, ih]
/-- the machine's own calls: their links -/
def okN (i : Instr) (kd : Nat) (av : Array Value) (s : State) (q : MI) : Prop := match i with
  | .invokespecial ix => kd = 4 → (Cond.methodLink q.1.cls ix objectInit).before av s = true ∧ (Cond.instanceMethod objectInit).before av s = true ∧ (Cond.code objectInit ⟨#[0xb1]⟩ 1 none).before av s = true
  | .invokestatic ix => (kd = 5 → (Cond.methodLink q.1.cls ix arraycopyName).before av s = true ∧ (Cond.native arraycopyName).before av s = true ∧ (Cond.static arraycopyName).before av s = true ∧ (Cond.initialized "java/lang/System").before av s = true) ∧
    (kd = 6 → (Cond.methodLink q.1.cls ix ⟨"java/lang/Double", "doubleToRawLongBits", "(D)J"⟩).before av s = true ∧ (Cond.native ⟨"java/lang/Double", "doubleToRawLongBits", "(D)J"⟩).before av s = true ∧ (Cond.static ⟨"java/lang/Double", "doubleToRawLongBits", "(D)J"⟩).before av s = true ∧ (Cond.initialized "java/lang/Double").before av s = true) ∧
    (kd = 7 → (Cond.methodLink q.1.cls ix ⟨"java/lang/Float", "floatToRawIntBits", "(F)I"⟩).before av s = true ∧ (Cond.native ⟨"java/lang/Float", "floatToRawIntBits", "(F)I"⟩).before av s = true ∧ (Cond.static ⟨"java/lang/Float", "floatToRawIntBits", "(F)I"⟩).before av s = true ∧ (Cond.initialized "java/lang/Float").before av s = true)
  | _ => True
theorem acw : nativeFrameWords "java/lang/System" "arraycopy" 5 ≤ 12 := by decide
theorem snN {q : MI} (X : Cx p s m args meth c q D cy b sz L xs) (w : Wd D cy b sz L xs s.heap M H locs) (hls : lv_has ls q.2.2.1 (lv.map (cvp b sz))) {i : Instr} {kd : Nat} (hd : decode q.2.1 pc = .ok (i, ln)) (hl : ln = sLen i) (h : gN i kd sk M = some (sk', M')) (hN : okN i kd args s q) (hR1 : 1 ≤ R.frames) (hR2 : 35 ≤ R.locals)
    (hcz : s.heap.size + cells + 1 = sz + M.length)
    (k : ∀ (H1 : Heap) (locs1 : List Loc) (c1 s1 : Nat), Wd D cy b sz L xs s.heap M' H1 locs1 → s.heap.size + c1 + 1 = sz + M'.length → s1 + szM M = slots + szM M' → W p l e R s m args below meth c H1 locs1 c1 s1 Q (F0 m (pc + ln) ls (sk'.map (cv b sz)))) : W p l e R s m args below meth c H locs cells slots Q (F0 m pc ls (sk.map (cv b sz))) := by
  subst hl
  obtain ⟨hx, hb, hml, hown, hts, hK, hX, hbs, hss, hNX, hini⟩ := X
  obtain ⟨hP, hS, h0⟩ := w
  have hD : va_D (fun q : Nat => sz ≤ q) (wsM cy b sz M) := wsM_D
  have hmls : c.maxLocals = ls.size := hml.trans hls.1.symm
  unfold gN at h
  split at h
  · split at h
    · split at h
      · split at h
        · rename_i r hc
          have hc := Nat.le_of_ble_eq_true hc
          cases h
          obtain ⟨g1, g2, g3⟩ := hN rfl
          refine W.objInit hx hb hown g1 g2 g3 rfl hmls.symm rfl hd hR1 ?_ (k H locs cells slots ⟨hP, hS, h0⟩ hcz rfl)
          rw [catS_map]
          show 2 * 0 + _ + 12 ≤ _
          omega
        · cases h
      · cases h
    · cases h
  · split at h
    · split at h
      · rename_i n dp a sp a0 r
        split at h
        · rename_i o1 o2 n0 f n1 g hM0 hM1
          split at h
          · cases h
          · rename_i hc
            simp only [Bool.or_eq_false_iff, decide_eq_false_iff_not] at hc
            obtain ⟨⟨⟨⟨⟨⟨⟨q1, q2⟩, q3⟩, q4⟩, q5⟩, q6⟩, q7⟩, q8⟩ := hc
            have b4 : sp.toNatClampNeg + n.toNatClampNeg ≤ n0 := by
              rcases Nat.lt_or_ge n0 (sp.toNatClampNeg + n.toNatClampNeg) with z | z
              · rw [← Nat.blt_eq, q4] at z
                cases z
              · exact z
            have b5 : dp.toNatClampNeg + n.toNatClampNeg ≤ n1 := by
              rcases Nat.lt_or_ge n1 (dp.toNatClampNeg + n.toNatClampNeg) with z | z
              · rw [← Nat.blt_eq, q5] at z
                cases z
              · exact z
            have b8 : catS r ≤ 8 := by
              rcases Nat.lt_or_ge 8 (catS r) with z | z
              · rw [← Nat.blt_eq, q8] at z
                cases z
              · exact z
            cases a with
            | zero => cases q6
            | succ j =>
              cases a0 with
              | zero => cases q7
              | succ j0 =>
                obtain ⟨g1, g2, g3, g4⟩ := hN.1 rfl
                obtain ⟨e2, e3⟩ := Prod.mk.inj (Option.some.inj h)
                have e3 := e3.symm
                subst e2
                refine va_copyi hx hb hmls hown g1 g2 g3 g4 hK hP hD hS j0 j 0 0 (wsM_at hM0) (wsM_at hM1) rfl rfl rfl q1 q2 q3 b4 b5 (fun _ _ => rfl) hR1 ?_ hd ?_
                · rw [catS_map]
                  have := acw
                  omega
                · intro H1 locs1 hP1 _ hS1
                  refine k H1 locs1 cells slots ⟨?_, hS1, by rw [e3]; exact set0 h0⟩ (by rw [e3, List.length_set]; exact hcz) (by rw [e3]; exact congrArg (slots + ·) (szM_set hM1 (by rfl)).symm)
                  rw [e3, ← wsM_set]
                  exact hP1
        · cases h
      · cases h
    · split at h
      · split at h
        · rename_i x r hc
          have hc := Nat.le_of_ble_eq_true hc
          cases h
          obtain ⟨g1, g2, g3, g4⟩ := hN.2.1 rfl
          refine vn_d2l hx hb hmls hown g1 g2 g3 g4 hR1 ?_ hd (k H locs cells slots ⟨hP, hS, h0⟩ hcz rfl)
          rw [catS_map]
          omega
        · cases h
      · cases h
    · split at h
      · split at h
        · rename_i x r hc
          have hc := Nat.le_of_ble_eq_true hc
          cases h
          obtain ⟨g1, g2, g3, g4⟩ := hN.2.2 rfl
          refine vn_f2i hx hb hmls hown g1 g2 g3 g4 hR1 ?_ hd (k H locs cells slots ⟨hP, hS, h0⟩ hcz rfl)
          rw [catS_map]
          omega
        · cases h
      · cases h
    · cases h
  · cases h
theorem lvs_eq (b sz : Nat) : ∀ (as : List Value) (k : Nat), lv_args k (as.map (cv b sz)) = (lvs k as).map (cvp b sz)
  | [], _ => rfl
  | v :: as, k => by
    have ih := lvs_eq b sz as
    show (k, cv b sz v) :: lv_args (if (cv b sz v).category = 2 then k + 2 else k + 1) (as.map (cv b sz)) = (k, cv b sz v) :: (lvs (match cat2 v with | true => k + 2 | false => k + 1) as).map (cvp b sz)
    rw [ih, cv_cat]
    have hc := cat2_eq v
    cases h : cat2 v with
    | true =>
      rw [h] at hc
      rw [if_pos (beq_iff_eq.mp hc.symm)]
    | false =>
      rw [h] at hc
      rw [if_neg (fun z => by rw [z] at hc; cases hc)]
theorem lg_len (b sz : Nat) : ∀ as : List Value, (lg_sl (as.map (cv b sz))).length = catS as
  | [] => rfl
  | v :: as => by
    have ih := lg_len b sz as
    unfold lg_sl catS at ih ⊢
    rw [List.map_cons, List.flatMap_cons, List.length_append, ih, List.map_cons, List.sum_cons, cv_cat]
    cases v <;> rfl
/-- a call, with what it leaves -/
theorem va_go {mc ms : Nat} {g : JFrame} {rest : List Value} {Qa : State → Outcome → State → Prop} {free : Addr → Prop} (hr : va_Run p l e R s m args below meth c H locs cells slots mc ms g rest Qa free)
    (kk : ∀ (v : Option Value) (u t : State) (H1 : Heap) (Ls : List Loc), u.heap = H → Qa u (.returned v) t → t.heap = H1 → (∀ q ∈ Ls, free q.base) → W p l e R s m args below meth c H1 (locs ++ Ls) (cells + mc) (slots + ms) Q { g with pc := g.pc + 3, stack := v.toList ++ rest }) : W p l e R s m args below meth c H locs cells slots Q g := by
  intro T hT X
  obtain ⟨v, u, t, T', Ls, h0, X', hL, e1, e2, hq, st⟩ := hr T hT X
  obtain ⟨t2, a1, b1⟩ := kk v u t T'.heap Ls h0 hq e1.symm hL T' rfl X'
  exact ⟨t2, st t2 a1, b1⟩
/-- a method's start -/
def Wp0 (D : va_G) (cy : Nat → ClassId) (b sz L : Nat) (xs : Nat → Int32) (M : PM) (U : State) : Prop :=
  va_P D vwCl (wsM cy b sz M) U.heap ∧ U.heap.size + 1 = sz + M.length ∧ M[0]? = some (.inl (0, L, .inl xs)) ∧ va_K D vwCl (tyl cy) U ∧ va_X b L xs U U.heap ∧ NX U ∧ b < sz
/-- a method's end -/
def Qc0 (D : va_G) (cy : Nat → ClassId) (b sz : Nat) (v : Option Value) (M' : PM) : Array Value → State → Outcome → State → Prop := fun _ st o t =>
  o = .returned (v.map (cv b sz)) ∧ va_P D vwCl (wsM cy b sz M') t.heap ∧ va_F (fun q : Nat => sz ≤ q) st t
theorem Wp0.blind (as : List Value) : FrameBlind (va_Pc as (Wp0 D cy b sz L xs M)) := by
  intro a U g mk h
  obtain ⟨h1, q1, q2, q3, q4, q5, q6, q7⟩ := h
  exact ⟨h1, q1, q2, q3, va_K.moved (u := U) (U := U.calling g mk a) (Vm.Alike.refl U.vm) q4, va_X.moved (u := U) (U := U.calling g mk a) (Vm.Alike.refl U.vm) q5, q6.calling g mk a, q7⟩
def wsY (y : Nat) : List Cond := .code (mi y).1 (mi y).2.1 (mi y).2.2.1 (mi y).2.2.2.1 :: gw
def rmY (y mc ms : Nat) : Room := { frames := (mi y).2.2.2.2.1, cells := mc, slots := ms, locals := 35 * (mi y).2.2.2.2.1 }
/-- a method's contract at one start, for its own run -/
def MetAt (l : Launch) (D : va_G) (cy : Nat → ClassId) (b sz L : Nat) (xs : Nat → Int32) (y : Nat) (as : List Value) (M : PM) (v : Option Value) (M' : PM) : Prop :=
  Met l (mi y).1 (wsY y) (rmY y (M'.length - M.length) (szM M' - szM M)) (va_Pc (as.map (cv b sz)) (Wp0 D cy b sz L xs M)) (Qc0 D cy b sz v M') (M'.length - M.length) (szM M' - szM M) (fun q : Nat => sz ≤ q)
theorem cws_at {y : Nat} (h : y < 192) : cwOk (mi y) := by
  have h1 : mitC.length = 192 := by decide +kernel
  have h2 : mi y = nth mi0 mitC y := by
    unfold mi mit
    have : ∀ (A B : List MI) (k : Nat), k < A.length → nth mi0 (A ++ B) k = nth mi0 A k := by
      intro A
      induction A with
      | nil => intro B k hk; exact absurd hk (Nat.not_lt_zero _)
      | cons a A ih =>
        intro B k hk
        cases k with
        | zero => rfl
        | succ k => exact ih B k (by simpa using hk)
    exact this _ _ _ (by omega)
  rw [h2]
  exact cwAll_at cws (List.mem_of_getElem? (nth_get (by omega)))
theorem plainY_at {n : Nat} {q : MethodName} (h : plainY q n = true) : (q.cls ≠ "java/lang/invoke/MethodHandle" ∧ q.cls ≠ "java/lang/invoke/VarHandle") ∧ (∀ sig, parseMethodDescriptor q.desc = some sig → n = sig.parameters.length) ∧ plainFor q = true := by
  unfold plainY at h
  simp only [Bool.and_eq_true, decide_eq_true_eq] at h
  obtain ⟨⟨⟨h1, h2⟩, h3⟩, h4⟩ := h
  refine ⟨⟨h1, h2⟩, fun sig hs => ?_, h4⟩
  rw [hs] at h3
  exact (Option.some.inj h3).symm
end SNZ
end
section
section SNX
variable {p : Program} {l : Launch} {e : Env} {R : Room} {s : State} {m : MethodId} {args : Array Value} {below : List Frame} {meth : Method} {c : Code} {H : Heap} {locs : List Loc} {cells slots : Nat} {Q : State → Prop}
variable {cc : ByteArray} {pc ln b sz nL L : Nat} {ls : Array Slot} {rest : List Value} {lv : LV} {D : va_G} {cy : Nat → ClassId} {xs : Nat → Int32} {M : PM} {r1 r2 : Nat} {sk sk' : List Value} {M' : PM}
/-- a call's links -/
def okI (i : Instr) (kd y n rc : Nat) (av : Array Value) (s : State) (q : MI) : Prop := y < 192 ∧ (mi y).2.2.2.2.1 < q.2.2.2.2.1 ∧ (mi y).2.2.1 ≤ 16 ∧ (Cond.initialized (mi y).1.cls).before av s = true ∧ match i with
  | .invokestatic ix => (kd = 0 → (Cond.methodLink q.1.cls ix (mi y).1).before av s = true ∧ (Cond.static (mi y).1).before av s = true ∧ n = (mi y).2.2.2.2.2.2) ∧
    (kd = 8 → va_Nw (.methodLinkNest q.1.cls ix (mi y).1 "PairGrammars") s ∧ (Cond.static (mi y).1).before av s = true ∧ n = (mi y).2.2.2.2.2.2)
  | .invokevirtual ix => (Cond.methodLink q.1.cls ix (mi y).1).before av s = true ∧ (Cond.instanceMethod (mi y).1).before av s = true ∧ (Cond.selects (mi y).1.cls (mi y).1 (mi y).1).before av s = true ∧ n = (mi y).2.2.2.2.2.2 + 1 ∧ (vcl rc).1 = (mi y).1.cls ∧ rc < 11
  | .invokespecial ix => n = (mi y).2.2.2.2.2.2 + 1 ∧ (mi y).1.name = "<init>" ∧ (mi y).2.2.2.1 = none ∧ (Cond.instanceMethod (mi y).1).before av s = true ∧ (kd = 2 → (Cond.methodLink q.1.cls ix (mi y).1).before av s = true) ∧ (kd = 3 → va_Nw (.methodLinkNest q.1.cls ix (mi y).1 "PairGrammars") s)
  | _ => True
theorem gI_inv {i : Instr} {kd n rc : Nat} {as r : List Value} (h : gI i kd n rc sk M = some (as, r)) : as = (sk.take n).reverse ∧ r = sk.drop n ∧ n ≤ sk.length ∧ catS r ≤ 8 ∧ (match i with
    | .invokestatic _ => kd = 0 ∨ kd = 8
    | .invokespecial _ => (kd = 2 ∨ kd = 3) ∧ ∃ a As, as = .ref a :: As
    | .invokevirtual _ => kd = 1 ∧ ∃ a As fs, as = .ref a :: As ∧ M[a]? = some (.inr (rc, fs))
    | _ => False) := by
  unfold gI at h
  cases h1 : (Nat.ble n sk.length && Nat.ble (catS (sk.drop n)) 8) with
  | false => rw [h1] at h; cases h
  | true =>
    rw [h1] at h
    dsimp only at h
    rw [Bool.and_eq_true] at h1
    have q1 := Nat.le_of_ble_eq_true h1.1
    have q2 := Nat.le_of_ble_eq_true h1.2
    split at h
    · split at h
      · rename_i hk
        cases h
        rw [Bool.or_eq_true] at hk
        exact ⟨rfl, rfl, q1, q2, hk.imp Nat.eq_of_beq_eq_true Nat.eq_of_beq_eq_true⟩
      · cases h
    · split at h
      · rename_i hk
        rw [Bool.or_eq_true] at hk
        split at h
        · rename_i a As ha
          cases h
          exact ⟨ha.symm, rfl, q1, q2, hk.imp Nat.eq_of_beq_eq_true Nat.eq_of_beq_eq_true, _, _, rfl⟩
        · cases h
      · cases h
    · split at h
      · rename_i hk
        split at h
        · rename_i a As ha
          split at h
          · rename_i o ci fs hM
            split at h
            · rename_i hc
              have hc := Nat.eq_of_beq_eq_true hc
              cases h
              exact ⟨ha.symm, rfl, q1, q2, Nat.eq_of_beq_eq_true hk, _, _, _, rfl, by rw [← hc]; exact hM⟩
            · cases h
          · cases h
        · cases h
      · cases h
    · cases h
theorem snI {q : MI} (X : Cx p s m args meth c q D cy b sz L xs) (w : Wd D cy b sz L xs s.heap M H locs) (hls : lv_has ls q.2.2.1 (lv.map (cvp b sz))) {i : Instr} {kd y n rc : Nat} {as r : List Value} {v : Option Value} {M1 : PM} (hd : decode q.2.1 pc = .ok (i, ln)) (hl : ln = sLen i) (h : gI i kd n rc sk M = some (as, r)) (hI : okI i kd y n rc args s q)
    (hM : MetAt l D cy b sz L xs y as M v M1) (hmo : Mono M M1) (hR1 : q.2.2.2.2.1 ≤ R.frames) (hR2 : 35 * q.2.2.2.2.1 ≤ R.locals)
    (hcz : s.heap.size + cells + 1 = sz + M.length) (hc : cells + M1.length ≤ R.cells + M.length) (hsl : slots + szM M1 ≤ R.slots + szM M)
    (k : ∀ (H1 : Heap) (locs1 : List Loc) (c1 s1 : Nat), Wd D cy b sz L xs s.heap M1 H1 locs1 → s.heap.size + c1 + 1 = sz + M1.length → s1 + szM M = slots + szM M1 → W p l e R s m args below meth c H1 locs1 c1 s1 Q (F0 m (pc + ln) ls ((v.toList ++ r).map (cv b sz)))) : W p l e R s m args below meth c H locs cells slots Q (F0 m pc ls (sk.map (cv b sz))) := by
  subst hl
  obtain ⟨hx, hb, hml, hown, hts, hK, hX, hbs, hss, hNX, hini⟩ := X
  obtain ⟨hP, hS, h0⟩ := w
  have hM1 : 1 ≤ M.length := by
    have := (List.getElem?_eq_some_iff.mp h0).1
    omega
  have hbA : ¬ (fun q : Nat => sz ≤ q) b := Nat.not_le.mpr hbs
  obtain ⟨ea, er, hn, hcr, hk⟩ := gI_inv h
  obtain ⟨hy, hdep, hmx, hini2, hI⟩ := hI
  obtain ⟨hcode, hpl⟩ := cws_at hy
  obtain ⟨hp1, hp2, hp3⟩ := plainY_at hpl
  have hlen : as.length = n := by rw [ea, List.length_reverse, List.length_take]; omega
  have hst : sk.map (cv b sz) = (as.map (cv b sz)).reverse ++ r.map (cv b sz) := by
    rw [ea, er, ← List.map_reverse, List.reverse_reverse, ← List.map_append, List.take_append_drop]
  have hW : 2 * (F0 m pc ls (sk.map (cv b sz))).monitorRoom + ((r.map (cv b sz)).map fun v => v.category).sum ≤ 8 := by
    rw [catS_map]
    show 2 * 0 + _ ≤ 8
    omega
  refine W.bound fun hub => ?_
  have hsz : H.size = sz + (M.length - 1) := by
    rcases sz_low hP hM1 hS.1 hcz with ⟨q1, q2, q3⟩ | q <;> omega
  have hpre : ∀ U : State, U.heap = H → s.WarmedH U.vm → va_Pc (as.map (cv b sz)) (Wp0 D cy b sz L xs M) (as.map (cv b sz)).toArray U := by
    intro U hU hW
    refine ⟨rfl, by rw [hU]; exact hP, by rw [hU]; omega, h0, va_K.moved hW.alike hK, ?_, hNX.warm hW, hbs⟩
    rw [hU]
    exact va_X.moved hW.alike (hX.kept (hS.2.1 b (Nat.lt_of_lt_of_le hbs hss) hbA))
  have hws : ∀ w ∈ wsY y, ∀ (a' : Array Value) (U : State), s.WarmedH U.vm → w.before a' U = true := by
    intro w hw a' U hW
    rcases List.mem_cons.mp hw with e | hw
    · rw [e]; exact word_at hW (gw_good hcode) (hts _ hcode)
    · exact word_at hW (gw_good hw) (hts _ hw)
  have hroom : (rmY y (M1.length - M.length) (szM M1 - szM M)).frames + 1 ≤ R.frames ∧ 8 + ((mi y).2.2.1 + 11) + (rmY y (M1.length - M.length) (szM M1 - szM M)).locals ≤ R.locals := by
    show (mi y).2.2.2.2.1 + 1 ≤ R.frames ∧ 8 + ((mi y).2.2.1 + 11) + 35 * (mi y).2.2.2.2.1 ≤ R.locals
    omega
  obtain ⟨mo1, mo2, mo3⟩ := hmo
  have hf : cells + (M1.length - M.length) ≤ R.cells ∧ slots + (szM M1 - szM M) ≤ R.slots := by omega
  have hgo : sLen i = 3 → va_Run p l e R s m args below meth c H locs cells slots (M1.length - M.length) (szM M1 - szM M) (F0 m pc ls (sk.map (cv b sz))) (r.map (cv b sz)) (Qc0 D cy b sz v M1 (as.map (cv b sz)).toArray) (fun q : Nat => sz ≤ q) → W p l e R s m args below meth c H locs cells slots Q (F0 m pc ls (sk.map (cv b sz))) := by
    intro h3 hr
    refine va_go hr fun v' u t H1 Ls hu hQ ht hL => ?_
    obtain ⟨ev, hP1, hF⟩ := hQ
    have ev : v' = v.map (cv b sz) := by cases ev; rfl
    subst ev
    subst ht
    have hF2 := hF.2
    rw [hu] at hF2
    have hF1 := hF.1
    rw [hu] at hF1
    have K := k t.heap (locs ++ Ls) (cells + (M1.length - M.length)) (slots + (szM M1 - szM M)) ⟨hP1, ⟨Nat.le_trans hS.1 hF1, fun q h1 h2 => (hF2 q (Nat.lt_of_lt_of_le h1 hS.1) h2).trans (hS.2.1 q h1 h2), fun q hq => (List.mem_append.mp hq).elim (hS.2.2 q) (hL q)⟩, mo1 _ h0⟩ (by omega) (by omega)
    rw [h3] at K
    refine W.eq ?_ K
    cases v <;> rfl
  have hfix : CallFix p m c q.2.1 q.2.2.1 s args gw q.1.cls := ⟨hx, hb, hml, hown, hts⟩
  have hnl : ∀ sig, parseMethodDescriptor (mi y).1.desc = some sig → (mi y).2.2.2.2.2.2 = sig.parameters.length := hp2
  cases i with
  | invokestatic ix =>
    refine hgo rfl ?_
    rcases hk with hk | hk
    · obtain ⟨g1, g2, g3⟩ := hI.1 hk
      exact va_runS hfix hM (n := n) (ret := (mi y).2.2.2.1) ⟨⟨rfl, rfl, hroom.1, hroom.2, hws, List.mem_cons_self, hts _ hcode, hini2, hp1, fun sig hs => g3.trans (hnl sig hs), g1⟩, g2⟩ ⟨Wp0.blind _, hpre⟩ rfl (by rw [List.length_map]; exact hlen) hls.1 hst hW hd hf
    · obtain ⟨g1, g2, g3⟩ := hI.2 hk
      exact va_runSN hfix hM (n := n) (ret := (mi y).2.2.2.1) ⟨⟨⟨rfl, rfl, hroom.1, hroom.2, hws, List.mem_cons_self⟩, hts _ hcode, hini2, hp1, fun sig hs => g3.trans (hnl sig hs), va_Nw.use rfl g1⟩, g2, trivial⟩ ⟨Wp0.blind _, hpre⟩ rfl (by rw [List.length_map]; exact hlen) hls.1 hst hW hd hf
  | invokevirtual ix =>
    refine hgo rfl ?_
    obtain ⟨-, a, As, fs, ha, hMa⟩ := hk
    obtain ⟨g1, g2, g3, g4, g5, g6⟩ := hI
    obtain ⟨j, rfl⟩ := mem0 h0 hMa
    subst ha
    have hrec := va_recv hK hP (vwCl_at g6) (wsM_at hMa)
    rw [g5] at hrec
    have hst2 : sk.map (cv b sz) = (As.map (cv b sz)).reverse ++ .ref (sz + j) :: r.map (cv b sz) := by
      rw [hst, List.map_cons, List.reverse_cons, List.append_assoc]; rfl
    have hlen2 : (As.map (cv b sz)).length = n - 1 := by
      rw [List.length_map]
      simp only [List.length_cons] at hlen
      omega
    exact va_runV hfix hM (n := n - 1) (ret := (mi y).2.2.2.1) ⟨⟨rfl, rfl, hroom.1, hroom.2, hws, List.mem_cons_self, hts _ hcode, hini2, hp1, fun sig hs => by have := hnl sig hs; omega, g1⟩, g2, g3⟩ ⟨Wp0.blind _, hrec, hpre⟩ rfl hlen2 hls.1 hst2 hW hd hf
  | invokespecial ix =>
    refine hgo rfl ?_
    obtain ⟨hkd, a, As, ha⟩ := hk
    obtain ⟨g1, g2, g3, g4, g5, g6⟩ := hI
    subst ha
    have hst2 : sk.map (cv b sz) = (As.map (cv b sz)).reverse ++ .ref (ad b sz a) :: r.map (cv b sz) := by
      rw [hst, List.map_cons, List.reverse_cons, List.append_assoc]; rfl
    have hlen2 : (As.map (cv b sz)).length = n - 1 := by
      rw [List.length_map]
      simp only [List.length_cons] at hlen
      omega
    have hcode2 : Cond.code (mi y).1 (mi y).2.1 (mi y).2.2.1 none ∈ wsY y := by
      have : Cond.code (mi y).1 (mi y).2.1 (mi y).2.2.1 (mi y).2.2.2.1 ∈ wsY y := List.mem_cons_self
      rw [g3] at this
      exact this
    have hcode3 : (Cond.code (mi y).1 (mi y).2.1 (mi y).2.2.1 none).before args s = true := by
      have := hts _ hcode
      rw [g3] at this
      exact this
    rcases hkd with hkd | hkd
    · exact va_runI hfix hM (n := n - 1) ⟨⟨rfl, rfl, hroom.1, hroom.2, hws, hcode2, hcode3, hini2, hp1, fun sig hs => by have := hnl sig hs; omega, g5 hkd⟩, g2, g4⟩ ⟨Wp0.blind _, hpre⟩ rfl hlen2 hls.1 hst2 hW hd hf
    · exact va_runIN hfix hM (n := n - 1) ⟨⟨⟨rfl, rfl, hroom.1, hroom.2, hws, hcode2⟩, hcode3, hini2, hp1, fun sig hs => by have := hnl sig hs; omega, va_Nw.use rfl (g6 hkd)⟩, g2, g4⟩ ⟨Wp0.blind _, hpre⟩ rfl hlen2 hls.1 hst2 hW hd hf
  | _ => exact hk.elim
end SNX
end
section
/-! From the rows of a resolved code to what each step asks. -/
theorem and1 {a b : Bool} (h : (a && b) = true) : a = true := (Bool.and_eq_true_iff.mp h).1
theorem and2 {a b : Bool} (h : (a && b) = true) : b = true := (Bool.and_eq_true_iff.mp h).2
def isSw : Instr → Bool
  | .tableswitch _ _ _ _ => true
  | .lookupswitch _ _ => true
  | _ => false
section SNY
variable {q : MI} {pc ln nx tg r1 r2 r3 : Nat} {i : Instr}
theorem okE_dec (h : okE q (pc, i, ln, nx, tg, r1, r2, r3) = true) : decode q.2.1 pc = .ok (i, ln) ∧ nx = pc + ln := by
  unfold okE at h
  exact ⟨of_decide_eq_true (and1 (and1 h)), Nat.eq_of_beq_eq_true (and2 (and1 h))⟩
theorem okE_len (h : okE q (pc, i, ln, nx, tg, r1, r2, r3) = true) (hs : isSw i = false) : ln = sLen i := by
  unfold okE at h
  have h := and2 h
  cases i <;> first
    | exact Nat.eq_of_beq_eq_true h
    | exact Nat.eq_of_beq_eq_true (and1 h)
    | exact Nat.eq_of_beq_eq_true (and1 (and1 h))
    | exact Nat.eq_of_beq_eq_true (and1 (and1 (and1 h)))
    | cases hs
theorem okE_B (h : okE q (pc, i, ln, nx, tg, r1, r2, r3) = true) : okB i q.2.2.1 := by
  unfold okE at h
  have h := and2 h
  cases i <;> first
    | trivial
    | exact Nat.blt_eq.mp (and2 h)
theorem okE_G (h : okE q (pc, i, ln, nx, tg, r1, r2, r3) = true) : okG i pc tg := by
  unfold okE at h
  have h := and2 h
  cases i <;> first
    | trivial
    | (have hq := of_decide_eq_true (and2 h); exact hq)
theorem okE_S (h : okE q (pc, i, ln, nx, tg, r1, r2, r3) = true) : okS i := by
  unfold okE at h
  have h := and2 h
  cases i <;> first
    | trivial
    | exact h
variable {s : State} {args : Array Value}
theorem any5 {l : List (Nat × Nat × Nat × Nat × Nat)} {a b c d : Nat} (h : l.any (fun t => Nat.beq t.1 a && Nat.beq t.2.1 b && Nat.beq t.2.2.1 c && Nat.beq t.2.2.2.1 d) = true) : ∃ x, (a, b, c, d, x) ∈ l := by
  obtain ⟨⟨t1, t2, t3, t4, t5⟩, ht, hq⟩ := List.any_eq_true.mp h
  have e1 := Nat.eq_of_beq_eq_true (and1 (and1 (and1 hq)))
  have e2 := Nat.eq_of_beq_eq_true (and2 (and1 (and1 hq)))
  have e3 := Nat.eq_of_beq_eq_true (and2 (and1 hq))
  have e4 := Nat.eq_of_beq_eq_true (and2 hq)
  dsimp only at e1 e2 e3 e4
  subst e1; subst e2; subst e3; subst e4
  exact ⟨t5, ht⟩
theorem any7 {l : List (Nat × Nat × Nat × Nat × Nat × Nat × Nat)} {a b c d : Nat} (h : l.any (fun t => Nat.beq t.1 a && Nat.beq t.2.1 b && Nat.beq t.2.2.1 c && Nat.beq t.2.2.2.1 d) = true) : ∃ x, (a, b, c, d, x) ∈ l := by
  obtain ⟨⟨t1, t2, t3, t4, t5⟩, ht, hq⟩ := List.any_eq_true.mp h
  have e1 := Nat.eq_of_beq_eq_true (and1 (and1 (and1 hq)))
  have e2 := Nat.eq_of_beq_eq_true (and2 (and1 (and1 hq)))
  have e3 := Nat.eq_of_beq_eq_true (and2 (and1 hq))
  have e4 := Nat.eq_of_beq_eq_true (and2 hq)
  dsimp only at e1 e2 e3 e4
  subst e1; subst e2; subst e3; subst e4
  exact ⟨t5, ht⟩
theorem any11 {l : List (Nat × Nat × Nat × Nat × Nat × Nat × Nat × Nat × Nat × Nat × Nat)} {a b c d e f : Nat} (h : l.any (fun t => Nat.beq t.1 a && Nat.beq t.2.1 b && Nat.beq t.2.2.1 c && Nat.beq t.2.2.2.1 d && Nat.beq t.2.2.2.2.1 e && Nat.beq t.2.2.2.2.2.1 f) = true) : ∃ x, (a, b, c, d, e, f, x) ∈ l := by
  obtain ⟨⟨t1, t2, t3, t4, t5, t6, t7⟩, ht, hq⟩ := List.any_eq_true.mp h
  have e1 := Nat.eq_of_beq_eq_true (and1 (and1 (and1 (and1 (and1 hq)))))
  have e2 := Nat.eq_of_beq_eq_true (and2 (and1 (and1 (and1 (and1 hq)))))
  have e3 := Nat.eq_of_beq_eq_true (and2 (and1 (and1 (and1 hq))))
  have e4 := Nat.eq_of_beq_eq_true (and2 (and1 (and1 hq)))
  have e5 := Nat.eq_of_beq_eq_true (and2 (and1 hq))
  have e6 := Nat.eq_of_beq_eq_true (and2 hq)
  dsimp only at e1 e2 e3 e4 e5 e6
  subst e1; subst e2; subst e3; subst e4; subst e5; subst e6
  exact ⟨t7, ht⟩
theorem okE_C (ho : own q.2.2.2.2.2.1 = q.1.cls) (hts : ∀ w ∈ gw, w.before args s = true) (h : okE q (pc, i, ln, nx, tg, r1, r2, r3) = true) : okC i r1 r2 args s q.1.cls := by
  unfold okE at h
  have h := and2 h
  rw [← ho]
  cases i <;> try trivial
  · have hq := of_decide_eq_true (and2 h)
    exact hq
  · obtain ⟨x, hx⟩ := any5 (and2 h)
    have hk := List.all_eq_true.mp csl_ok _ hx
    intro hr
    subst hr
    exact hts _ (wAt_in hk)
  · obtain ⟨x, hx⟩ := any5 (and2 h)
    have hk := List.all_eq_true.mp csl_ok _ hx
    refine ⟨fun hr => ?_, fun hr => ?_⟩ <;> subst hr <;> exact hts _ (wAt_in hk)
  · have hq := of_decide_eq_true (and2 h)
    exact hq
theorem okE_F (ho : own q.2.2.2.2.2.1 = q.1.cls) (hts : ∀ w ∈ gw, w.before args s = true) (h : okE q (pc, i, ln, nx, tg, r1, r2, r3) = true) : okF i r1 r2 args s q := by
  unfold okE at h
  have h := and2 h
  have fd : ∀ ix, fdl.any (fun t => Nat.beq t.1 q.2.2.2.2.2.1 && Nat.beq t.2.1 ix && Nat.beq t.2.2.1 r1 && Nat.beq t.2.2.2.1 r2) = true → r1 < 11 ∧ r2 < (vcl r1).2.2 ∧ (Cond.fieldLink q.1.cls ix ((vcl r1).2.1 r2).1 ((vcl r1).2.1 r2).2.1 ((vcl r1).2.1 r2).2.2.1).before args s = true := by
    intro ix h
    obtain ⟨x, hx⟩ := any5 h
    have hk := List.all_eq_true.mp fdl_ok _ hx
    unfold fdOk at hk
    have k1 := hts _ (wAt_in (and1 (and1 hk)))
    have k2 := of_decide_eq_true (and2 (and1 hk))
    have k3 := of_decide_eq_true (and2 hk)
    dsimp only at k1 k2 k3
    rw [ho] at k1
    exact ⟨k3, k2, k1⟩
  have nw : ∀ ix kd, nwl.any (fun t => Nat.beq t.1 q.2.2.2.2.2.1 && Nat.beq t.2.1 ix && Nat.beq t.2.2.1 r1 && Nat.beq t.2.2.2.1 kd) = true → ∃ x, nwOk (q.2.2.2.2.2.1, ix, r1, kd, x) = true := by
    intro ix kd h
    obtain ⟨x, hx⟩ := any7 h
    exact ⟨x, List.all_eq_true.mp nwl_ok _ hx⟩
  cases i <;> try trivial
  · obtain ⟨x, hk⟩ := nw _ _ (and2 h)
    unfold nwOk at hk
    have k1 := hts _ (wAt_in (and1 (and1 hk)))
    have k3 := of_decide_eq_true (and2 hk)
    rw [ho] at k1
    rcases k3 with k3 | k3 <;> subst k3
    · exact Or.inl ⟨rfl, k1⟩
    · exact Or.inr ⟨rfl, k1⟩
  · exact fd _ (and2 h)
  · obtain ⟨x, hk⟩ := nw _ _ (and2 h)
    unfold nwOk at hk
    have k1 := hts _ (wAt_in (and1 (and1 (and1 hk))))
    have k2 := hts _ (wAt_in (and2 (and1 (and1 hk))))
    have k3 := hts _ (wAt_in (and2 (and1 hk)))
    have k4 := of_decide_eq_true (and2 hk)
    rw [ho] at k1
    exact ⟨k4, k1, k2, k3⟩
  · obtain ⟨f1, f2, f3⟩ := fd _ (and2 (and1 h))
    refine ⟨f1, f2, f3, fun hf => ?_⟩
    have hq := and2 h
    rw [hf] at hq
    have hq : (decide (q.1.name = "<init>") && decide (((vcl r1).2.1 r2).1 = q.1.cls)) = true := hq
    exact ⟨of_decide_eq_true (and1 hq), of_decide_eq_true (and2 hq)⟩
theorem cll_of {ix : Nat} (h : cll.any (fun t => Nat.beq t.1 q.2.2.2.2.2.1 && Nat.beq t.2.1 ix && Nat.beq t.2.2.1 tg && Nat.beq t.2.2.2.1 r1 && Nat.beq t.2.2.2.2.1 r2 && Nat.beq t.2.2.2.2.2.1 r3) = true) : ∃ x, (q.2.2.2.2.2.1, ix, tg, r1, r2, r3, x) ∈ cll ∧ clOk (q.2.2.2.2.2.1, ix, tg, r1, r2, r3, x) = true := by
  obtain ⟨x, hx⟩ := any11 h
  exact ⟨x, hx, List.all_eq_true.mp cll_ok _ hx⟩
theorem okE_N (ho : own q.2.2.2.2.2.1 = q.1.cls) (hts : ∀ w ∈ gw, w.before args s = true) (h : okE q (pc, i, ln, nx, tg, r1, r2, r3) = true) : okN i tg args s q := by
  unfold okE at h
  have h := and2 h
  cases i <;> try trivial
  · obtain ⟨x, -, hk⟩ := cll_of (and2 (and1 (and1 h)))
    intro ht
    subst ht
    unfold clOk at hk
    have k1 := hts _ (wAt_in (and1 (and1 hk)))
    have k2 := hts _ (wAt_in (and2 (and1 hk)))
    have k3 := hts _ (wAt_in (and2 hk))
    rw [ho] at k1
    exact ⟨k1, k3, k2⟩
  · obtain ⟨x, -, hk⟩ := cll_of (and2 (and1 (and1 h)))
    refine ⟨fun ht => ?_, fun ht => ?_, fun ht => ?_⟩ <;> subst ht <;> unfold clOk at hk <;> (
      have k1 := hts _ (wAt_in (and1 (and1 (and1 hk))))
      have k2 := hts _ (wAt_in (and2 (and1 (and1 hk))))
      have k3 := hts _ (wAt_in (and2 (and1 hk)))
      have k4 := hts _ (wAt_in (and2 hk))
      rw [ho] at k1
      exact ⟨k1, k2, k4, k3⟩)
end SNY
end
section
section SOUND
theorem okE_I {q : MI} {pc ln nx tg r1 r2 r3 : Nat} {i : Instr} {s : State} {args : Array Value} (ho : own q.2.2.2.2.2.1 = q.1.cls) (hts : ∀ w ∈ gw, w.before args s = true) (hN : NX s) (h : okE q (pc, i, ln, nx, tg, r1, r2, r3) = true) {sk : List Value} {M : PM} {as r : List Value} (hg : gI i tg r2 r3 sk M = some (as, r)) : okI i tg r1 r2 r3 args s q := by
  obtain ⟨-, -, -, -, hk⟩ := gI_inv hg
  unfold okE at h
  have h := and2 h
  cases i <;> try exact hk.elim
  · rename_i ix
    obtain ⟨hk, -⟩ := hk
    obtain ⟨x, hx, hc⟩ := cll_of (and2 (and1 (and1 h)))
    have hmx := Nat.le_of_ble_eq_true (and2 h)
    rcases hk with hk | hk <;> subst hk
    · have hd := Nat.blt_eq.mp (and2 (and1 h))
      unfold clOk at hc
      have k1 := hts _ (wAt_in (and1 (and1 (and1 (and1 (and1 (and1 hc)))))))
      have k2 := hts _ (wAt_in (and2 (and1 (and1 (and1 (and1 (and1 hc)))))))
      have k3 := hts _ (wAt_in (and2 (and1 (and1 (and1 (and1 hc))))))
      have k4 := of_decide_eq_true (and2 (and1 (and1 (and1 hc))))
      have k5 := of_decide_eq_true (and2 (and1 (and1 hc)))
      have k6 := of_decide_eq_true (and2 (and1 hc))
      have k7 := of_decide_eq_true (and2 hc)
      rw [ho] at k1
      exact ⟨k7, hd, hmx, k2, k4, k5, k6, k3, fun _ => k1, fun e => (by cases e)⟩
    · have hd := Nat.blt_eq.mp (and2 (and1 h))
      have kn := hN.1 _ hx (Or.inl rfl)
      unfold clOk at hc
      have k2 := hts _ (wAt_in (and2 (and1 (and1 (and1 (and1 (and1 hc)))))))
      have k3 := hts _ (wAt_in (and2 (and1 (and1 (and1 (and1 hc))))))
      have k4 := of_decide_eq_true (and2 (and1 (and1 (and1 hc))))
      have k5 := of_decide_eq_true (and2 (and1 (and1 hc)))
      have k6 := of_decide_eq_true (and2 (and1 hc))
      have k7 := of_decide_eq_true (and2 hc)
      rw [ho] at kn
      exact ⟨k7, hd, hmx, k2, k4, k5, k6, k3, fun e => (by cases e), fun _ => kn⟩
  · rename_i ix
    obtain ⟨x, hx, hc⟩ := cll_of (and2 (and1 (and1 h)))
    have hmx := Nat.le_of_ble_eq_true (and2 h)
    rcases hk with hk | hk <;> subst hk
    · have hd := Nat.blt_eq.mp (and2 (and1 h))
      unfold clOk at hc
      have k1 := hts _ (wAt_in (and1 (and1 (and1 (and1 hc)))))
      have k2 := hts _ (wAt_in (and2 (and1 (and1 (and1 hc)))))
      have k3 := hts _ (wAt_in (and2 (and1 (and1 hc))))
      have k4 := of_decide_eq_true (and2 (and1 hc))
      have k7 := of_decide_eq_true (and2 hc)
      rw [ho] at k1
      exact ⟨k7, hd, hmx, k2, fun _ => ⟨k1, k3, k4⟩, fun e => (by cases e)⟩
    · have hd := Nat.blt_eq.mp (and2 (and1 h))
      have kn := hN.1 _ hx (Or.inr rfl)
      unfold clOk at hc
      have k2 := hts _ (wAt_in (and2 (and1 (and1 (and1 hc)))))
      have k3 := hts _ (wAt_in (and2 (and1 (and1 hc))))
      have k4 := of_decide_eq_true (and2 (and1 hc))
      have k7 := of_decide_eq_true (and2 hc)
      rw [ho] at kn
      exact ⟨k7, hd, hmx, k2, fun e => (by cases e), fun _ => ⟨kn, k3, k4⟩⟩
  · rename_i ix
    obtain ⟨hk, -⟩ := hk
    subst hk
    obtain ⟨x, hx, hc⟩ := cll_of (and2 (and1 (and1 h)))
    have hmx := Nat.le_of_ble_eq_true (and2 h)
    have hd := Nat.blt_eq.mp (and2 (and1 h))
    unfold clOk at hc
    have k1 := hts _ (wAt_in (and1 (and1 (and1 (and1 (and1 (and1 (and1 hc))))))))
    have k2 := hts _ (wAt_in (and2 (and1 (and1 (and1 (and1 (and1 (and1 hc))))))))
    have k3 := hts _ (wAt_in (and2 (and1 (and1 (and1 (and1 (and1 hc)))))))
    have k4 := hts _ (wAt_in (and2 (and1 (and1 (and1 (and1 hc))))))
    have k5 := of_decide_eq_true (and2 (and1 (and1 (and1 hc))))
    have k6 := of_decide_eq_true (and2 (and1 (and1 hc)))
    have k7 := of_decide_eq_true (and2 (and1 hc))
    have k8 := of_decide_eq_true (and2 hc)
    rw [ho] at k1
    exact ⟨k8, hd, hmx, k2, k1, k3, k4, k5, k6, k7⟩
theorem fe_mem : ∀ {l : List EN} {pc : Nat} {r : Instr × Nat × Nat × Nat × Nat × Nat × Nat}, fe l pc = some r → (pc, r) ∈ l
  | [], _, _, h => by cases h
  | e :: l, pc, r, h => by
    unfold fe at h
    split at h
    · rename_i hb
      have hb := Nat.eq_of_beq_eq_true hb
      cases h
      subst hb
      exact List.mem_cons_self
    · exact List.mem_cons_of_mem _ (fe_mem h)
theorem gB_noSw {i : Instr} {lv lv' : LV} {sk sk' : List Value} (h : gB i lv sk = some (lv', sk')) : isSw i = false := by
  cases i <;> first | rfl | cases h
theorem gG_noSw {i : Instr} {sk sk' : List Value} {t : Bool} (h : gG i sk = some (t, sk')) : isSw i = false := by
  cases i <;> first | rfl | cases h
theorem gK_noSw {i : Instr} {lv : LV} {r1 r2 : Nat} {sk sk' : List Value} (h : gK i lv r1 r2 sk = some sk') : isSw i = false := by
  cases i <;> first | rfl | cases h
theorem gH_noSw {i : Instr} {tg r1 r2 : Nat} {sk sk' : List Value} {M M' : PM} (h : gH i tg r1 r2 sk M = some (sk', M')) : isSw i = false := by
  cases i <;> first | rfl | cases h
theorem gR_noSw {ret : Option FieldType} {i : Instr} {sk : List Value} {v : Option Value} (h : gR ret i sk = some v) : isSw i = false := by
  cases i <;> first | rfl | cases h
theorem gI_noSw {i : Instr} {kd n rc : Nat} {sk : List Value} {M : PM} {as r : List Value} (h : gI i kd n rc sk M = some (as, r)) : isSw i = false := by
  have hk := (gI_inv h).2.2.2.2
  cases i <;> first | rfl | exact hk.elim
/-- what a run says of the machine, wherever it stands in its method -/
def Snd (y : Nat) (x : CF) (v : Option Value) (M' : PM) : Prop :=
  ∀ {p : Program} {l : Launch} {e : Env} {R : Room} {s : State} {m : MethodId} {args : Array Value} {below : List Frame} {meth : Method} {c : Code} {H : Heap} {locs : List Loc} {cells slots : Nat} {Q : State → Prop} {b sz L : Nat} {ls : Array Slot} {D : va_G} {cy : Nat → ClassId} {xs : Nat → Int32} {CN SN : Nat},
    Cx p s m args meth c (mi y) D cy b sz L xs → Wd D cy b sz L xs s.heap x.2.2.2 H locs → lv_has ls (mi y).2.2.1 (x.2.1.map (cvp b sz)) → s.heap.size + cells + 1 = sz + x.2.2.2.length → (mi y).2.2.2.2.1 ≤ R.frames → 35 * (mi y).2.2.2.2.1 ≤ R.locals →
    s.heap.size + CN + 1 = sz + M'.length → SN + szM x.2.2.2 = slots + szM M' → CN ≤ R.cells → SN ≤ R.slots →
    (∀ (i : Instr) (pc ln : Nat) (H1 : Heap) (locs1 : List Loc) (ls1 : Array Slot) (sk : List Value), decode (mi y).2.1 pc = .ok (i, ln) → ln = sLen i → gR (mm y).1 i sk = some v → Wd D cy b sz L xs s.heap M' H1 locs1 → W p l e R s m args below meth c H1 locs1 CN SN Q (F0 m pc ls1 (sk.map (cv b sz)))) →
    W p l e R s m args below meth c H locs cells slots Q (F0 m x.1 ls (x.2.2.1.map (cv b sz)))
theorem MetAt.of {l : Launch} {D : va_G} {cy : Nat → ClassId} {b sz L : Nat} {xs : Nat → Int32} {y : Nat} {as : List Value} {M M' : PM} {v : Option Value} (hy : y < 192) (hc : catS as ≤ (mi y).2.2.1) (hS : Snd y (0, lvs 0 as, [], M) v M') (hmo : Mono M M') : MetAt l D cy b sz L xs y as M v M' := by
  obtain ⟨hcode, hpl⟩ := cws_at hy
  obtain ⟨hp1, hp2, hp3⟩ := plainY_at hpl
  obtain ⟨-, hret, -, -⟩ := okm y (by omega)
  refine va_MetF (cc := (mi y).2.1) (maxL := (mi y).2.2.1) (ret := (mi y).2.2.2.1) hp3 rfl ?_
  intro p e s m args below meth c s₁ B hml hv
  obtain ⟨rfl, hP, hz, h0, hK, hX, hN, hb⟩ := hv
  have hts := atoms_spec (ws := wsY y) B.pre
  have hl := lv_entry (as.map (cv b sz)) (n := (mi y).2.2.1) (by rw [lg_len]; exact hc)
  rw [lg_entry_eq]
  rw [lvs_eq] at hl
  have hM1 : 1 ≤ M.length := by
    have := (List.getElem?_eq_some_iff.mp h0).1
    omega
  have mo2 := hmo.2.1
  have mo3 := hmo.2.2
  refine hS (CN := M'.length - M.length) (SN := szM M' - szM M) ⟨B.exec, B.bytes, hml, findClass_of_methodNamed B.named, fun w hw => hts w (List.mem_cons_of_mem _ hw), hK, hX, hb, by omega, hN, fun e => ((name_of_methodNamed B.named B.method).1).trans e⟩ ⟨hP, va_S.rf, h0⟩ hl hz (Nat.le_refl _) (Nat.le_refl _) (by first | omega | (dsimp only; omega)) (by first | omega | (dsimp only; omega)) (Nat.le_refl _) (Nat.le_refl _) ?_
  intro i pc ln H1 locs1 ls1 sk hd hln hg w
  obtain ⟨wP, wS, w0⟩ := w
  have hx := B.exec
  have hbb := B.bytes
  have hr := B.returns
  have hlocks := B.notSynchronized
  subst hln
  have hqc : ∀ t : State, t.heap = H1 → s.WarmedH t.vm → Qc0 D cy b sz v M' (as.map (cv b sz)).toArray s (.returned (v.map (cv b sz))) t := fun t ht _ => ⟨rfl, by rw [ht]; exact wP, wS.F ht⟩
  rw [← hret] at hr
  unfold gR at hg
  split at hg
  · split at hg
    · rename_i o1 o2 x e1
      cases hg
      exact W.iret hx hbb (hr.trans e1) hqc wS.2.2 hd
    · rename_i o1 o2 x e1
      split at hg
      · rename_i hv
        cases hg
        rw [Bool.or_eq_true] at hv
        refine W.zret (ty := .boolean) hx hbb (hr.trans e1) ?_ hqc wS.2.2 hd
        rcases hv with hv | hv <;> have hv := of_decide_eq_true hv <;> subst hv <;> decide
      · cases hg
    · cases hg
  · split at hg
    · rename_i o1 o2 x e1
      cases hg
      exact W.lret hx hbb (hr.trans e1) hqc wS.2.2 hd
    · cases hg
  · split at hg
    · rename_i o1 o2 x n e1
      cases hg
      exact W.aret hx hbb (hr.trans e1) (Or.inl ⟨_, rfl⟩) (Or.inr ⟨_, rfl⟩) hqc wS.2.2 hd
    · cases hg
  · split at hg
    · rename_i o1 o2 e1
      cases hg
      exact W.vret hx hbb (hr.trans e1) hqc wS.2.2 hd
    · cases hg
  · cases hg
/-- THE SMALL MACHINE IS SOUND -/
theorem run_sound (n : Nat) : ∀ (y : Nat) (x : CF) (v : Option Value) (M' : PM), y < 193 → run n (mm y) x = some (v, M') → Snd y x v M' := by
  induction n with
  | zero =>
    intro y x v M' hy h
    cases h
  | succ n IH =>
    intro y x v M' hy h
    obtain ⟨pc, lv, sk, M⟩ := x
    intro p l e R s m args below meth c H locs cells slots Q b sz L ls D cy xs CN SN X w hls hcz hR1 hR2 hCN hSN hCR hSR kr
    obtain ⟨hrows, hret, ho, hd1⟩ := okm y hy
    have ih := fun x v M' => IH y x v M' hy
    have mono := run_mono (n + 1) _ _ _ _ h
    dsimp only at w hls hcz hSN mono ⊢
    have X0 := X
    obtain ⟨hx, hb, hml, hown, hts, hK, hX, hbs, hss, hNX, hini⟩ := X0
    have hR35 : 35 ≤ R.locals := by omega
    have hR11 : 1 ≤ R.frames := by omega
    unfold run at h
    dsimp only [stp] at h
    cases hf : fe (mm y).2 pc with
    | none => rw [hf] at h; cases h
    | some t =>
      obtain ⟨i, ln, nx, tg, r1, r2, r3⟩ := t
      rw [hf] at h
      dsimp only at h
      have hE : okE (mi y) (pc, i, ln, nx, tg, r1, r2, r3) = true := List.all_eq_true.mp hrows _ (fe_mem hf)
      obtain ⟨hd, hnx⟩ := okE_dec hE
      subst hnx
      cases hg1 : gK i lv r1 r2 sk with
      | some sk' =>
        rw [hg1] at h
        dsimp only at h
        have hl := okE_len hE (gK_noSw hg1)
        have K := ih _ _ _ h X w hls hcz hR1 hR2 hCN hSN hCR hSR kr
        dsimp only at K
        unfold gK at hg1
        split at hg1
        · rename_i g1
          cases hg1
          exact snA hx hb hd hl g1 hls K
        · split at hg1
          · rename_i g1
            cases hg1
            exact snC hx hb hown hd hl g1 (okE_C ho hts hE) K
          · split at hg1
            · rename_i g1
              cases hg1
              exact snD hx hb hd hl g1 K
            · exact snE hx hb hd hl hg1 K
      | none =>
        rw [hg1] at h
        dsimp only at h
        cases hg2 : gB i lv sk with
        | some z =>
          obtain ⟨lv', sk'⟩ := z
          rw [hg2] at h
          dsimp only at h
          have hl := okE_len hE (gB_noSw hg2)
          exact snB hx hb hd hl hg2 hls (okE_B hE) fun ls' hls' => ih _ _ _ h X w hls' hcz hR1 hR2 hCN hSN hCR hSR kr
        | none =>
          rw [hg2] at h
          dsimp only at h
          cases hg3 : gG i sk with
          | some z =>
            obtain ⟨t, sk'⟩ := z
            rw [hg3] at h
            dsimp only at h
            have hl := okE_len hE (gG_noSw hg3)
            have K := ih _ _ _ h X w hls hcz hR1 hR2 hCN hSN hCR hSR kr
            exact snG hx hb hd hl hg3 (okE_G hE) K
          | none =>
            rw [hg3] at h
            dsimp only at h
            cases hg4 : gH i tg r1 r2 sk M with
            | some z =>
              obtain ⟨sk', M1⟩ := z
              rw [hg4] at h
              dsimp only at h
              have hl := okE_len hE (gH_noSw hg4)
              have mo := run_mono n _ _ _ _ h
              dsimp only at mo
              have m2 := mo.2.1
              have m3 := mo.2.2
              have K : ∀ (H1 : Heap) (locs1 : List Loc) (c1 s1 : Nat), Wd D cy b sz L xs s.heap M1 H1 locs1 → s.heap.size + c1 + 1 = sz + M1.length → s1 + szM M = slots + szM M1 → W p l e R s m args below meth c H1 locs1 c1 s1 Q (F0 m (pc + ln) ls (sk'.map (cv b sz))) :=
                fun H1 locs1 c1 s1 w1 hc1 hs1 => ih _ _ _ h X w1 hls hc1 hR1 hR2 hCN (by dsimp only; omega) hCR hSR kr
              unfold gH at hg4
              split at hg4
              · rename_i g1
                cases hg4
                exact snF X w hd hl g1 (okE_F ho hts hE) hcz (by omega) (by omega) K
              · split at hg4
                · rename_i g1
                  cases hg4
                  exact snM X w hd hl g1 (okE_F ho hts hE) hcz (by omega) (by omega) K
                · exact snN X w hls hd hl hg4 (okE_N ho hts hE) hR11 hR35 hcz K
            | none =>
              rw [hg4] at h
              dsimp only at h
              cases hg5 : gS i pc sk with
              | some z =>
                obtain ⟨pc', sk'⟩ := z
                rw [hg5] at h
                dsimp only at h
                have K := ih _ _ _ h X w hls hcz hR1 hR2 hCN hSN hCR hSR kr
                exact snS hx hb hd hg5 (okE_S hE) K
              | none =>
                rw [hg5] at h
                dsimp only at h
                cases hg6 : gR (mm y).1 i sk with
                | some z =>
                  rw [hg6] at h
                  dsimp only at h
                  cases h
                  have e1 : cells = CN := by omega
                  have e2 : slots = SN := by omega
                  subst e1
                  subst e2
                  exact kr i pc ln H locs ls sk hd (okE_len hE (gR_noSw hg6)) hg6 w
                | none =>
                  rw [hg6] at h
                  dsimp only at h
                  cases hg7 : gI i tg r2 r3 sk M with
                  | none => rw [hg7] at h; cases h
                  | some z =>
                    obtain ⟨as, r⟩ := z
                    rw [hg7] at h
                    dsimp only at h
                    have hl := okE_len hE (gI_noSw hg7)
                    have hI := okE_I ho hts hNX hE hg7
                    have hy1 := hI.1
                    split at h
                    · cases h
                    · rename_i hcat
                      have hcat := Nat.le_of_ble_eq_true hcat
                      split at h
                      · cases h
                      · rename_i v1 M1 h1
                        have mo1 := run_mono n _ _ _ _ h1
                        have mo := run_mono n _ _ _ _ h
                        dsimp only at mo mo1
                        have m2 := mo.2.1
                        have m3 := mo.2.2
                        have n2 := mo1.2.1
                        have n3 := mo1.2.2
                        have hS1 := @IH r1 (0, lvs 0 as, [], M) v1 M1 (by omega) h1
                        refine snI X w hls hd hl hg7 hI (MetAt.of hy1 hcat hS1 mo1) mo1 hR1 hR2 hcz (by omega) (by omega) ?_
                        intro H1 locs1 c1 s1 w1 hc1 hs1
                        exact ih _ _ _ h X w1 hls hc1 hR1 hR2 hCN (by dsimp only; omega) hCR hSR kr
end SOUND
end
section
def R_law : String := "PairGrammarsLaw"
def lw_P (b : Addr) (xs : List Int32) (args : Array Value) (s : State) : Prop := args = #[.ref b] ∧ s.IntsAt b xs ∧ xs.length ≤ 1536 ∧ (Jvm.Cond.and given_1 narrow_1).before args s = true
/-- what a walk over the start with the record d0 says of its end, said of the start itself -/
theorem lw_closed {s t : State} {o : Outcome} {d0 : Drawn} {L : List Loc} {k n : Nat} (hd0 : s.drawn.sameBut d0 lw_cs) (hv : ∃ v, o = .returned v) (hW : (s.setDrawn d0).WarmedH t.vm) (hs : (s.setDrawn d0).sameButNew ({ t with vm := s.vm } : State) L k n) : State.butDraws s t lw_cs (fun t1 => Framed s o t1 L k n) := by
  have h2 : t.drawn = d0 := congrArg State.drawn hs.1
  refine ⟨⟨hv, hW, State.sameButNew.setDrawn hs s.drawn⟩, ?_, by decide⟩
  rw [h2]
  exact hd0
def lw_Q (_ : Array Value) (s : State) (o : Outcome) (t : State) : Prop := o = .returned (some (.int 1)) ∧ State.butDraws s t lw_cs (fun t1 => Framed s o t1 [] 600000 7302250)
def lw_Z (below : List Frame) (a : Array Value) (s : State) : State → Prop := fun t => ∃ o, t.status = .running ∧ Ended t below o ∧ lw_Q a s o t
/-- the law's own end, with 1 on the stack, nothing written that was there before, its room as the claim has it; d0: the record of draws at this point (at the entry s.drawn: begin with 'refine W.base ?_' and 'have hd0 := Drawn.sameBut.refl s.drawn lw_cs') -/
theorem lw_ret {p : Program} {l : Launch} {e : Env} {s : State} {m : MethodId} {below : List Frame} {meth : Method} {c : Code} {b : Nat} {d0 : Drawn} (hd0 : s.drawn.sameBut d0 lw_cs) (hx : p.tables.exec = Jvm.exec) (hb : c.code = code) (hr : meth.sig.returnType = ret) (hlocks : meth.locks = false) {pc : Nat} {H : Heap} {ls : Array Slot} (hdg : decode code pc = .ok (.ireturn, 1)) : W p l e room_1 (s.setDrawn d0) m #[Value.ref b] below meth c H [] 600000 7302250 (lw_Z below #[Value.ref b] s) (F0 m pc ls [.int 1]) := by
  intro T hT X
  obtain ⟨fs, hret, hrun, hended, hW, hframe⟩ := X.leave (v := some (.int 1)) (hlocks := hlocks) (fun h => by rw [hr] at h; cases h)
  have hmeth' : T.vm.method? m = some meth := X.method'
  refine ⟨T.setFrames fs, ?_, .returned (some (.int 1)), hrun, hended, rfl, lw_closed hd0 ⟨_, rfl⟩ hW hframe⟩
  jvm_step X.here [X.here.top, hx, hb, hdg, hmeth', hr, ret, narrow_b1]
  (try refine ⟨rfl, ?_⟩); (try refine ⟨rfl, ?_⟩)
  first | (intro acts; rw [hret _ acts rfl rfl rfl]) | rw [hret _ _ rfl rfl rfl]
  exact Steps.refl _
/-- what holds at the law's entry: the machine, the code, the tables' words (any of lw_tbl by 'hts w (by decide +kernel)'), the script of L ints xs at the cell b, what the Statement gives of the start (any of its parts by flat_of_before) -/
def lw_At (p : Program) (s : State) (m : MethodId) (meth : Method) (c : Code) (b L : Nat) (xs : Nat → Int32) : Prop :=
  p.tables.exec = Jvm.exec ∧ c.code = code ∧ meth.sig.returnType = ret ∧ c.maxLocals = 4 ∧ s.vm.findClass R_law = some m.cls ∧ (∀ w ∈ lw_tbl, w.before #[Value.ref b] s = true) ∧ va_X b L xs s s.heap ∧ b < s.heap.size ∧ meth.locks = false ∧ (Jvm.Cond.and given_1 narrow_1).before #[Value.ref b] s = true
theorem arrKn {s : State} {args : Array Value} {ty : FieldType} (h : (Cond.arrayClass ty).before args s = true) : ∃ cA : ClassId, ArrOfT s cA ty ∧ s.vm.findClass ("[" ++ ty.toString) = some cA := by
  obtain ⟨cA, k, comp, h1, h2, h3⟩ := Cond.arrayClass_spec h
  exact ⟨cA, fun n z => ⟨(fun k h => by cases h), k, h2, comp, h3⟩, h1⟩
theorem arrKq {s : State} {C : String} (h : va_AO C s) : ∃ cA : ClassId, ArrOfT s cA (.object C) ∧ va_RA s cA (.object C) := by
  obtain ⟨comp, cA, k, h1, -, h2, h3, h4⟩ := Cond.arrayOver_spec h
  exact ⟨cA, fun n z => ⟨(fun k h => by cases h), k, h2, comp, h3⟩, k, comp, h2, h3, h1, h4⟩
theorem gR_b {i : Instr} {sk : List Value} (h : gR (some .boolean) i sk = some (some (.int 1))) : i = .ireturn ∧ sk = [.int 1] := by
  cases i <;> try (cases h; done)
  all_goals (rcases sk with _ | ⟨v, _ | ⟨w, r⟩⟩ <;> try (cases h; done))
  all_goals (cases v <;> try (cases h; done))
  dsimp only [gR] at h
  split at h
  · cases h
    exact ⟨rfl, rfl⟩
  · cases h
set_option maxHeartbeats 4000000 in
set_option maxRecDepth 100000 in
theorem whole_of_run {p : Program} {e : Env} {s : State} {m : MethodId} {below : List Frame} {meth : Method} {c : Code} (l : Launch) {b L : Nat} {xs : Nat → Int32} (C0 : lw_At p s m meth c b L xs)
    (hrun : ∃ (n : Nat) (M' : PM), run n (mm 192) (0, [(0, .ref 0)], [], [.inl (0, L, .inl xs)]) = some (some (.int 1), M') ∧ M'.length ≤ 600001 ∧ szM M' ≤ 7302250 + L) : W p l e room_1 s m #[Value.ref b] below meth c s.heap [] 0 0 (lw_Z below #[Value.ref b] s) (entryFrame m ([Value.ref b] : List Value).toArray 4) := by
  obtain ⟨n, M', hrun, hlen, hszm⟩ := hrun
  obtain ⟨hx, hb, hr, hml, hown, hts, hX, hbl, hlocks, hgv⟩ := id C0
  have hgw : ∀ w ∈ gw, w.before #[Value.ref b] s = true := fun w hw => hts w (gw_in hw)
  have hkn : ∀ k, ∃ (cC : ClassId) (iS : Nat → Nat), k < 11 → u_Kn s (vcl k).1 (vcl k).2.1 (vcl k).2.2 cC iS := by
    intro k
    by_cases hk : k < 11
    · have hi : ∃ n, (Cond.instantiable (vcl k).1 n).before #[Value.ref b] s = true := by
        have h1 : ∀ k < 11, ∃ i, wAt i (Cond.instantiable (vcl k).1 (vcl k).2.2) = true := by
          intro k hk
          rcases (show k = 0 ∨ k = 1 ∨ k = 2 ∨ k = 3 ∨ k = 4 ∨ k = 5 ∨ k = 6 ∨ k = 7 ∨ k = 8 ∨ k = 9 ∨ k = 10 by omega) with rfl | rfl | rfl | rfl | rfl | rfl | rfl | rfl | rfl | rfl | rfl
          · exact ⟨75, by decide +kernel⟩
          · exact ⟨131, by decide +kernel⟩
          · exact ⟨118, by decide +kernel⟩
          · exact ⟨163, by decide +kernel⟩
          · exact ⟨201, by decide +kernel⟩
          · exact ⟨150, by decide +kernel⟩
          · exact ⟨82, by decide +kernel⟩
          · exact ⟨182, by decide +kernel⟩
          · exact ⟨214, by decide +kernel⟩
          · exact ⟨67, by decide +kernel⟩
          · exact ⟨771, by decide +kernel⟩
        obtain ⟨i, hi⟩ := h1 k hk
        exact ⟨_, hgw _ (wAt_in hi)⟩
      obtain ⟨n, hi⟩ := hi
      obtain ⟨cC, iS, h⟩ := u_known (T := (vcl k).2.1) (N := (vcl k).2.2) hgw (cls_at hk).1 hi
      exact ⟨cC, iS, fun _ => h⟩
    · exact ⟨0, fun _ => 0, fun h => absurd h hk⟩
  have hNX : NX s := by
    refine ⟨fun t ht hk => ?_, ?_, ?_⟩
    · have hc := List.all_eq_true.mp cll_ok _ ht
      obtain ⟨o, ix, kd, y, n, rc, pa, pb, pc, pd, pe⟩ := t
      rcases hk with hk | hk <;> (
        have hk : kd = _ := hk
        subst hk
        unfold clOk at hc)
      · exact va_Nw.of rfl (hts _ (wAtN_in (and1 (and1 (and1 (and1 (and1 (and1 hc))))))))
      · exact va_Nw.of rfl (hts _ (wAtN_in (and1 (and1 (and1 (and1 hc))))))
    · exact va_AO.of (hts _ (wAtN_in (i := 81) (by decide +kernel)))
    · exact va_AO.of (hts _ (wAtN_in (i := 137) (by decide +kernel)))
  obtain ⟨c0, a0, r0⟩ := arrKn (ty := .int) (hgw _ (wAt_in arrI_ok))
  obtain ⟨c1, a1, r1⟩ := arrKn (ty := .boolean) (hgw _ (wAt_in arrZ_ok))
  obtain ⟨c2, a2, r2⟩ := arrKq hNX.2.1
  obtain ⟨c3, a3, r3⟩ := arrKq hNX.2.2
  obtain ⟨cy, y0, y1, y2, y3⟩ : ∃ cy : Nat → ClassId, cy 0 = c0 ∧ cy 1 = c1 ∧ cy 2 = c2 ∧ cy 3 = c3 := ⟨fun k => if k = 0 then c0 else if k = 1 then c1 else if k = 2 then c2 else c3, rfl, rfl, rfl, rfl⟩
  subst y0; subst y1; subst y2; subst y3
  have hK : va_K (fun k => Classical.choose (hkn k), fun k => Classical.choose (Classical.choose_spec (hkn k))) vwCl (tyl cy) s := by
    refine ⟨fun k q hq => ?_, fun k q hq => ?_⟩
    · have hk : k < 11 := (List.getElem?_eq_some_iff.mp hq).1
      rw [vwCl_at hk] at hq
      cases hq
      exact Classical.choose_spec (Classical.choose_spec (hkn k)) hk
    · have hk : k < 4 := (List.getElem?_eq_some_iff.mp hq).1
      rcases (show k = 0 ∨ k = 1 ∨ k = 2 ∨ k = 3 by omega) with rfl | rfl | rfl | rfl <;> cases hq
      · exact ⟨a0, r0⟩
      · exact ⟨a1, r1⟩
      · exact ⟨a2, r2⟩
      · exact ⟨a3, r3⟩
  have hl := lv_entry ([.ref b]) (n := 4) (Nat.le_of_ble_eq_true rfl)
  rw [lg_entry_eq]
  have hmo := run_mono n _ _ _ _ hrun
  have m2 : 1 ≤ M'.length := hmo.2.1
  have m3 : szM [(Sum.inl (0, L, Sum.inl xs) : PC)] ≤ szM M' := hmo.2.2
  have m3 : L ≤ szM M' := by simpa [szM, szC] using m3
  have hsz1 : szM [(Sum.inl (0, L, Sum.inl xs) : PC)] = L := by simp [szM, szC]
  have S := @run_sound n 192 (0, [(0, .ref 0)], [], [.inl (0, L, .inl xs)]) (some (.int 1)) M' (by omega) hrun
  refine @S p l e room_1 s m #[Value.ref b] below meth c s.heap [] 0 0 _ b s.heap.size L _ _ cy xs (M'.length - 1) (szM M' - L) ⟨hx, hb, hml, hown, hgw, hK, hX, hbl, Nat.le_refl _, hNX, fun h => absurd h (by decide)⟩ ⟨?_, va_S.rf, rfl⟩ hl rfl (by decide +kernel) (by decide +kernel) ?_ ?_ ?_ ?_ ?_
  · intro k q h
    simp [wsM] at h
  · omega
  · rw [hsz1]; omega
  · show M'.length - 1 ≤ 600000; omega
  · show szM M' - L ≤ 7302250; omega
  · intro i pc ln H1 locs1 ls1 sk hd hln hg w
    obtain ⟨wP, wS, w0⟩ := w
    have hg : gR (some .boolean) i sk = some (some (.int 1)) := hg
    subst hln
    obtain ⟨rfl, rfl⟩ := gR_b hg
    refine va_forget (fun q hq => wS.2.2 q hq) ?_
    refine W.widen (k := 600000) (n := 7302250) (by omega) (by omega) ?_
    exact lw_ret (d0 := s.drawn) (Drawn.sameBut.refl s.drawn lw_cs) hx hb hr hlocks hd
end
section
/-! A calculus over 'run': from a place of a code, every answer and memory that Q allows. -/
section WPC
theorem run_more : ∀ (n : Nat) (c : MM) (x : CF) (r : Option Value × PM), run n c x = some r → ∀ k, run (n + k) c x = some r
  | 0, _, _, _, h, _ => by cases h
  | n + 1, c, x, r, h, k => by
    rw [show n + 1 + k = (n + k) + 1 by omega]
    unfold run at h ⊢
    cases hs : stp c x with
    | none => rw [hs] at h; cases h
    | some z =>
      rw [hs] at h
      rcases z with x' | v | ⟨y, as, rr, nx⟩
      · exact run_more n c x' r h k
      · exact h
      · dsimp only at h ⊢
        cases hb : Nat.ble (catS as) (mi y).2.2.1 with
        | false => rw [hb] at h; cases h
        | true =>
          rw [hb] at h
          dsimp only at h ⊢
          cases h1 : run n (mm y) (0, lvs 0 as, [], x.2.2.2) with
          | none => rw [h1] at h; cases h
          | some w =>
            obtain ⟨v1, M1⟩ := w
            rw [h1] at h
            dsimp only at h
            rw [run_more n _ _ _ h1 k]
            exact run_more n c _ r h k
def Wp (c : MM) (x : CF) (Q : Option Value → PM → Prop) : Prop := ∃ (n : Nat) (v : Option Value) (M' : PM), run n c x = some (v, M') ∧ Q v M'
/-- a method's call: what is handed fits, and its own run -/
def Wm (y : Nat) (as : List Value) (M : PM) (Q : Option Value → PM → Prop) : Prop := Nat.ble (catS as) (mi y).2.2.1 = true ∧ Wp (mm y) (0, lvs 0 as, [], M) Q
theorem Wp.mono {c : MM} {x : CF} {Q Q' : Option Value → PM → Prop} (h : Wp c x Q) (k : ∀ v M', Q v M' → Q' v M') : Wp c x Q' := by
  obtain ⟨n, v, M', h1, h2⟩ := h
  exact ⟨n, v, M', h1, k v M' h2⟩
theorem Wm.mono {y : Nat} {as : List Value} {M : PM} {Q Q' : Option Value → PM → Prop} (h : Wm y as M Q) (k : ∀ v M', Q v M' → Q' v M') : Wm y as M Q' := ⟨h.1, h.2.mono k⟩
theorem wm_in {y : Nat} {as : List Value} {M : PM} {Q : Option Value → PM → Prop} {c : MM} {lv : LV} (hc : mm y = c) (hb : Nat.ble (catS as) (mi y).2.2.1 = true) (hl : lvs 0 as = lv) (k : Wp c (0, lv, [], M) Q) : Wm y as M Q := by
  subst hc; subst hl
  exact ⟨hb, k⟩
theorem Wp.step {c : MM} {x x' : CF} {Q : Option Value → PM → Prop} (hs : stp c x = some (.inl x')) (k : Wp c x' Q) : Wp c x Q := by
  obtain ⟨n, v, M', h1, h2⟩ := k
  refine ⟨n + 1, v, M', ?_, h2⟩
  unfold run
  rw [hs]
  exact h1
theorem Wp.ret {c : MM} {x : CF} {v : Option Value} {Q : Option Value → PM → Prop} (hs : stp c x = some (.inr (.inl v))) (k : Q v x.2.2.2) : Wp c x Q := by
  refine ⟨1, v, x.2.2.2, ?_, k⟩
  unfold run
  rw [hs]
theorem Wp.call {c : MM} {x : CF} {y nx : Nat} {as r : List Value} {Q : Option Value → PM → Prop} (hs : stp c x = some (.inr (.inr (y, as, r, nx)))) (k : Wm y as x.2.2.2 (fun v M' => Wp c (nx, x.2.1, v.toList ++ r, M') Q)) : Wp c x Q := by
  obtain ⟨hb, n1, v1, M1, h1, n2, v, M', h2, hq⟩ := k
  refine ⟨n1 + n2 + 1, v, M', ?_, hq⟩
  unfold run
  rw [hs]
  dsimp only
  rw [hb]
  dsimp only
  rw [run_more n1 _ _ _ h1 n2]
  dsimp only
  rw [Nat.add_comm]
  exact run_more n2 _ _ _ h2 n1
abbrev FT : Type := Instr × Nat × Nat × Nat × Nat × Nat × Nat
/-- behind the fetch -/
def Wq (c : MM) (t : FT) (pc : Nat) (lv : LV) (sk : List Value) (M : PM) (Q : Option Value → PM → Prop) : Prop := fe c.2 pc = some t → Wp c (pc, lv, sk, M) Q
variable {c : MM} {i : Instr} {ln nx tg r1 r2 r3 pc : Nat} {lv : LV} {sk r : List Value} {M : PM} {Q : Option Value → PM → Prop} {t : FT}
theorem wf (hf : fe c.2 pc = some t) (k : Wq c t pc lv sk M Q) : Wp c (pc, lv, sk, M) Q := k hf
theorem wq_k {sk' : List Value} (h : gK i lv r1 r2 sk = some sk') (k : Wp c (nx, lv, sk', M) Q) : Wq c (i, ln, nx, tg, r1, r2, r3) pc lv sk M Q := by
  intro hf
  refine Wp.step ?_ k
  dsimp only [stp]
  rw [hf]
  dsimp only
  rw [h]
theorem wq_b {lv' : LV} {sk' : List Value} (hk : gK i lv r1 r2 sk = none) (h : gB i lv sk = some (lv', sk')) (k : Wp c (nx, lv', sk', M) Q) : Wq c (i, ln, nx, tg, r1, r2, r3) pc lv sk M Q := by
  intro hf
  refine Wp.step ?_ k
  dsimp only [stp]
  rw [hf]
  dsimp only
  rw [hk]
  dsimp only
  rw [h]
theorem wq_g {b : Bool} {sk' : List Value} (hk : gK i lv r1 r2 sk = none) (hb : gB i lv sk = none) (h : gG i sk = some (b, sk')) (k : Wp c (cond b tg nx, lv, sk', M) Q) : Wq c (i, ln, nx, tg, r1, r2, r3) pc lv sk M Q := by
  intro hf
  refine Wp.step ?_ k
  dsimp only [stp]
  rw [hf]
  dsimp only
  rw [hk]
  dsimp only
  rw [hb]
  dsimp only
  rw [h]
theorem wq_h {sk' : List Value} {M' : PM} (hk : gK i lv r1 r2 sk = none) (hb : gB i lv sk = none) (hg : gG i sk = none) (h : gH i tg r1 r2 sk M = some (sk', M')) (k : Wp c (nx, lv, sk', M') Q) : Wq c (i, ln, nx, tg, r1, r2, r3) pc lv sk M Q := by
  intro hf
  refine Wp.step ?_ k
  dsimp only [stp]
  rw [hf]
  dsimp only
  rw [hk]
  dsimp only
  rw [hb]
  dsimp only
  rw [hg]
  dsimp only
  rw [h]
theorem wq_s {pc' : Nat} {sk' : List Value} (hk : gK i lv r1 r2 sk = none) (hb : gB i lv sk = none) (hg : gG i sk = none) (hh : gH i tg r1 r2 sk M = none) (h : gS i pc sk = some (pc', sk')) (k : Wp c (pc', lv, sk', M) Q) : Wq c (i, ln, nx, tg, r1, r2, r3) pc lv sk M Q := by
  intro hf
  refine Wp.step ?_ k
  dsimp only [stp]
  rw [hf]
  dsimp only
  rw [hk]
  dsimp only
  rw [hb]
  dsimp only
  rw [hg]
  dsimp only
  rw [hh]
  dsimp only
  rw [h]
theorem wq_r {v : Option Value} (hk : gK i lv r1 r2 sk = none) (hb : gB i lv sk = none) (hg : gG i sk = none) (hh : gH i tg r1 r2 sk M = none) (hs : gS i pc sk = none) (h : gR c.1 i sk = some v) (k : Q v M) : Wq c (i, ln, nx, tg, r1, r2, r3) pc lv sk M Q := by
  intro hf
  refine Wp.ret (v := v) ?_ k
  dsimp only [stp]
  rw [hf]
  dsimp only
  rw [hk]
  dsimp only
  rw [hb]
  dsimp only
  rw [hg]
  dsimp only
  rw [hh]
  dsimp only
  rw [hs]
  dsimp only
  rw [h]
theorem wq_i {as : List Value} (hk : gK i lv r1 r2 sk = none) (hb : gB i lv sk = none) (hg : gG i sk = none) (hh : gH i tg r1 r2 sk M = none) (hs : gS i pc sk = none) (hr : gR c.1 i sk = none) (h : gI i tg r2 r3 sk M = some (as, r)) (k : Wm r1 as M (fun v M' => Wp c (nx, lv, v.toList ++ r, M') Q)) : Wq c (i, ln, nx, tg, r1, r2, r3) pc lv sk M Q := by
  intro hf
  refine Wp.call (y := r1) (nx := nx) (as := as) (r := r) ?_ k
  dsimp only [stp]
  rw [hf]
  dsimp only
  rw [hk]
  dsimp only
  rw [hb]
  dsimp only
  rw [hg]
  dsimp only
  rw [hh]
  dsimp only
  rw [hs]
  dsimp only
  rw [hr]
  dsimp only
  rw [h]
/-! whole numbers as images of integers -/
abbrev I (z : Int) : Int32 := Int32.ofInt z
def inR (z : Int) : Prop := -2147483648 ≤ z ∧ z < 2147483648
theorem I_add (x y : Int) : I x + I y = I (x + y) := (Int32.ofInt_add x y).symm
theorem I_sub (x y : Int) : I x - I y = I (x - y) := (Int32.ofInt_sub x y).symm
theorem I_mul (x y : Int) : I x * I y = I (x * y) := (Int32.ofInt_mul x y).symm
theorem I_lt {x y : Int} (hx : inR x) (hy : inR y) : I x < I y ↔ x < y := by
  rw [Int32.lt_iff_toInt_lt, Int32.toInt_ofInt_of_le hx.1 hx.2, Int32.toInt_ofInt_of_le hy.1 hy.2]
theorem I_le {x y : Int} (hx : inR x) (hy : inR y) : I x ≤ I y ↔ x ≤ y := by
  rw [Int32.le_iff_toInt_le, Int32.toInt_ofInt_of_le hx.1 hx.2, Int32.toInt_ofInt_of_le hy.1 hy.2]
theorem I_eq {x y : Int} (hx : inR x) (hy : inR y) : I x = I y ↔ x = y := by
  rw [← Int32.toInt_inj, Int32.toInt_ofInt_of_le hx.1 hx.2, Int32.toInt_ofInt_of_le hy.1 hy.2]
theorem I_nat {x : Int} (hx : inR x) : (I x).toNatClampNeg = x.toNat := by
  show (I x).toInt.toNat = x.toNat
  rw [Int32.toInt_ofInt_of_le hx.1 hx.2]
theorem I_0 : (0 : Int32) = I 0 := rfl
theorem inR_0 : inR 0 := by constructor <;> decide
theorem I_all (x : Int32) : ∃ z, inR z ∧ x = I z := ⟨x.toInt, ⟨Int32.le_toInt x, Int32.toInt_lt x⟩, (Int32.ofInt_toInt x).symm⟩
theorem inA_I {x : Int} {n : Nat} (hx : inR x) : inA (I x) n = true ↔ 0 ≤ x ∧ x < n := by
  unfold inA
  rw [decide_eq_true_eq, I_nat hx, I_0, I_lt hx inR_0]
  omega
theorem wq_iadd {x y : Int} (k : Wp c (nx, lv, .int (I (x + y)) :: r, M) Q) : Wq c (.iadd, ln, nx, tg, r1, r2, r3) pc lv (.int (I y) :: .int (I x) :: r) M Q := wq_k (by rw [← I_add]; rfl) k
theorem wq_isub {x y : Int} (k : Wp c (nx, lv, .int (I (x - y)) :: r, M) Q) : Wq c (.isub, ln, nx, tg, r1, r2, r3) pc lv (.int (I y) :: .int (I x) :: r) M Q := wq_k (by rw [← I_sub]; rfl) k
theorem wq_imul {x y : Int} (k : Wp c (nx, lv, .int (I (x * y)) :: r, M) Q) : Wq c (.imul, ln, nx, tg, r1, r2, r3) pc lv (.int (I y) :: .int (I x) :: r) M Q := wq_k (by rw [← I_mul]; rfl) k
theorem wq_iinc {n : Nat} {z x : Int} (h : lget lv n = some (.int (I x))) (k : Wp c (nx, lst1 n (.int (I (x + z))) lv, sk, M) Q) : Wq c (.iinc n z, ln, nx, tg, r1, r2, r3) pc lv sk M Q := by
  refine wq_b (lv' := lst1 n (.int (I (x + z))) lv) (sk' := sk) rfl ?_ k
  rw [← I_add]
  unfold gB
  dsimp only
  rw [h]
theorem wq_goto {o : Int} (k : Wp c (tg, lv, sk, M) Q) : Wq c (.goto o, ln, nx, tg, r1, r2, r3) pc lv sk M Q := wq_g (b := true) rfl rfl rfl k
theorem wq_eq {o x y : Int} (hx : inR x) (hy : inR y) (kt : x = y → Wp c (tg, lv, r, M) Q) (kf : ¬ x = y → Wp c (nx, lv, r, M) Q) : Wq c (.if_icmp .eq o, ln, nx, tg, r1, r2, r3) pc lv (.int (I y) :: .int (I x) :: r) M Q := by
  refine wq_g (b := decide (I x = I y)) rfl rfl rfl ?_
  by_cases h : x = y
  · rw [decide_eq_true ((I_eq hx hy).mpr h)]; exact kt h
  · rw [decide_eq_false (fun z => h ((I_eq hx hy).mp z))]; exact kf h
theorem wq_ne {o x y : Int} (hx : inR x) (hy : inR y) (kt : ¬ x = y → Wp c (tg, lv, r, M) Q) (kf : x = y → Wp c (nx, lv, r, M) Q) : Wq c (.if_icmp .ne o, ln, nx, tg, r1, r2, r3) pc lv (.int (I y) :: .int (I x) :: r) M Q := by
  refine wq_g (b := decide (¬ I x = I y)) rfl rfl rfl ?_
  by_cases h : x = y
  · rw [decide_eq_false (fun z => z ((I_eq hx hy).mpr h))]; exact kf h
  · rw [decide_eq_true (show ¬ I x = I y from fun z => h ((I_eq hx hy).mp z))]; exact kt h
theorem wq_lt {o x y : Int} (hx : inR x) (hy : inR y) (kt : x < y → Wp c (tg, lv, r, M) Q) (kf : y ≤ x → Wp c (nx, lv, r, M) Q) : Wq c (.if_icmp .lt o, ln, nx, tg, r1, r2, r3) pc lv (.int (I y) :: .int (I x) :: r) M Q := by
  refine wq_g (b := decide (I x < I y)) rfl rfl rfl ?_
  by_cases h : x < y
  · rw [decide_eq_true ((I_lt hx hy).mpr h)]; exact kt h
  · rw [decide_eq_false (fun z => h ((I_lt hx hy).mp z))]; exact kf (by omega)
theorem wq_ge {o x y : Int} (hx : inR x) (hy : inR y) (kt : y ≤ x → Wp c (tg, lv, r, M) Q) (kf : x < y → Wp c (nx, lv, r, M) Q) : Wq c (.if_icmp .ge o, ln, nx, tg, r1, r2, r3) pc lv (.int (I y) :: .int (I x) :: r) M Q := by
  refine wq_g (b := decide (I y ≤ I x)) rfl rfl rfl ?_
  by_cases h : y ≤ x
  · rw [decide_eq_true ((I_le hy hx).mpr h)]; exact kt h
  · rw [decide_eq_false (fun z => h ((I_le hy hx).mp z))]; exact kf (by omega)
theorem wq_gt {o x y : Int} (hx : inR x) (hy : inR y) (kt : y < x → Wp c (tg, lv, r, M) Q) (kf : x ≤ y → Wp c (nx, lv, r, M) Q) : Wq c (.if_icmp .gt o, ln, nx, tg, r1, r2, r3) pc lv (.int (I y) :: .int (I x) :: r) M Q := by
  refine wq_g (b := decide (I y < I x)) rfl rfl rfl ?_
  by_cases h : y < x
  · rw [decide_eq_true ((I_lt hy hx).mpr h)]; exact kt h
  · rw [decide_eq_false (fun z => h ((I_lt hy hx).mp z))]; exact kf (by omega)
theorem wq_le {o x y : Int} (hx : inR x) (hy : inR y) (kt : x ≤ y → Wp c (tg, lv, r, M) Q) (kf : y < x → Wp c (nx, lv, r, M) Q) : Wq c (.if_icmp .le o, ln, nx, tg, r1, r2, r3) pc lv (.int (I y) :: .int (I x) :: r) M Q := by
  refine wq_g (b := decide (I x ≤ I y)) rfl rfl rfl ?_
  by_cases h : x ≤ y
  · rw [decide_eq_true ((I_le hx hy).mpr h)]; exact kt h
  · rw [decide_eq_false (fun z => h ((I_le hx hy).mp z))]; exact kf (by omega)
theorem wq_ifeq {o x : Int} (hx : inR x) (kt : x = 0 → Wp c (tg, lv, r, M) Q) (kf : ¬ x = 0 → Wp c (nx, lv, r, M) Q) : Wq c (.ifCond .eq o, ln, nx, tg, r1, r2, r3) pc lv (.int (I x) :: r) M Q := by
  refine wq_g (b := decide (I x = I 0)) rfl rfl rfl ?_
  by_cases h : x = 0
  · rw [decide_eq_true ((I_eq hx inR_0).mpr h)]; exact kt h
  · rw [decide_eq_false (fun z => h ((I_eq hx inR_0).mp z))]; exact kf h
theorem wq_ifne {o x : Int} (hx : inR x) (kt : ¬ x = 0 → Wp c (tg, lv, r, M) Q) (kf : x = 0 → Wp c (nx, lv, r, M) Q) : Wq c (.ifCond .ne o, ln, nx, tg, r1, r2, r3) pc lv (.int (I x) :: r) M Q := by
  refine wq_g (b := decide (¬ I x = I 0)) rfl rfl rfl ?_
  by_cases h : x = 0
  · rw [decide_eq_false (fun z => z ((I_eq hx inR_0).mpr h))]; exact kf h
  · rw [decide_eq_true (show ¬ I x = I 0 from fun z => h ((I_eq hx inR_0).mp z))]; exact kt h
theorem wq_iflt {o x : Int} (hx : inR x) (kt : x < 0 → Wp c (tg, lv, r, M) Q) (kf : 0 ≤ x → Wp c (nx, lv, r, M) Q) : Wq c (.ifCond .lt o, ln, nx, tg, r1, r2, r3) pc lv (.int (I x) :: r) M Q := by
  refine wq_g (b := decide (I x < I 0)) rfl rfl rfl ?_
  by_cases h : x < 0
  · rw [decide_eq_true ((I_lt hx inR_0).mpr h)]; exact kt h
  · rw [decide_eq_false (fun z => h ((I_lt hx inR_0).mp z))]; exact kf (by omega)
theorem wq_ifge {o x : Int} (hx : inR x) (kt : 0 ≤ x → Wp c (tg, lv, r, M) Q) (kf : x < 0 → Wp c (nx, lv, r, M) Q) : Wq c (.ifCond .ge o, ln, nx, tg, r1, r2, r3) pc lv (.int (I x) :: r) M Q := by
  refine wq_g (b := decide (I 0 ≤ I x)) rfl rfl rfl ?_
  by_cases h : 0 ≤ x
  · rw [decide_eq_true ((I_le inR_0 hx).mpr h)]; exact kt h
  · rw [decide_eq_false (fun z => h ((I_le inR_0 hx).mp z))]; exact kf (by omega)
theorem wq_ifgt {o x : Int} (hx : inR x) (kt : 0 < x → Wp c (tg, lv, r, M) Q) (kf : x ≤ 0 → Wp c (nx, lv, r, M) Q) : Wq c (.ifCond .gt o, ln, nx, tg, r1, r2, r3) pc lv (.int (I x) :: r) M Q := by
  refine wq_g (b := decide (I 0 < I x)) rfl rfl rfl ?_
  by_cases h : 0 < x
  · rw [decide_eq_true ((I_lt inR_0 hx).mpr h)]; exact kt h
  · rw [decide_eq_false (fun z => h ((I_lt inR_0 hx).mp z))]; exact kf (by omega)
theorem wq_ifle {o x : Int} (hx : inR x) (kt : x ≤ 0 → Wp c (tg, lv, r, M) Q) (kf : 0 < x → Wp c (nx, lv, r, M) Q) : Wq c (.ifCond .le o, ln, nx, tg, r1, r2, r3) pc lv (.int (I x) :: r) M Q := by
  refine wq_g (b := decide (I x ≤ I 0)) rfl rfl rfl ?_
  by_cases h : x ≤ 0
  · rw [decide_eq_true ((I_le hx inR_0).mpr h)]; exact kt h
  · rw [decide_eq_false (fun z => h ((I_le hx inR_0).mp z))]; exact kf (by omega)
end WPC
end
section
/-! Memory: what stays, and the calculus' rows on fields and arrays. -/
section MEM
def Fr (P : Nat → Prop) (M M' : PM) : Prop := M'.length = M.length ∧ szM M' = szM M ∧ ∀ q, ¬ P q → M'[q]? = M[q]?
theorem Fr.rf {P : Nat → Prop} {M : PM} : Fr P M M := ⟨rfl, rfl, fun _ _ => rfl⟩
theorem Fr.tr {P : Nat → Prop} {M M1 M2 : PM} (h : Fr P M M1) (k : Fr P M1 M2) : Fr P M M2 := ⟨k.1.trans h.1, k.2.1.trans h.2.1, fun q hq => (k.2.2 q hq).trans (h.2.2 q hq)⟩
theorem Fr.mono {P P' : Nat → Prop} {M M' : PM} (h : Fr P M M') (k : ∀ q, P q → P' q) : Fr P' M M' := ⟨h.1, h.2.1, fun q hq => h.2.2 q (fun z => hq (k q z))⟩
theorem Fr.at {P : Nat → Prop} {M M' : PM} (h : Fr P M M') {a : Nat} (ha : ¬ P a) {x : PC} (hM : M[a]? = some x) : M'[a]? = some x := (h.2.2 a ha).trans hM
theorem Fr.put {M : PM} {a : Nat} {x y : PC} (hM : M[a]? = some x) (hs : szC y = szC x) : Fr (fun q => q = a) M (M.set a y) :=
  ⟨by rw [List.length_set], szM_set hM hs, fun q hq => by rw [List.getElem?_set_ne (fun z => hq z.symm)]⟩
theorem get_set {M : PM} {a : Nat} {x y : PC} (hM : M[a]? = some x) : (M.set a y)[a]? = some y := by
  rw [List.getElem?_set_self (List.getElem?_eq_some_iff.mp hM).1]
abbrev aJ (n : Nat) (g : Nat → Int) : PC := aI n (fun k => I (g k))
def upz (g : Nat → Int) (j : Nat) (v : Int) : Nat → Int := fun k => if k = j then v else g k
theorem upz_at (g : Nat → Int) (j : Nat) (v : Int) : upz g j v j = v := if_pos rfl
theorem upz_ne (g : Nat → Int) {j k : Nat} (v : Int) (h : k ≠ j) : upz g j v k = g k := if_neg h
theorem upd_I (g : Nat → Int) (j : Nat) (v : Int) : upd (fun k => I (g k)) j (I v) = fun k => I (upz g j v k) := by
  funext k
  unfold upd upz
  split <;> rfl
variable {c : MM} {ln nx tg r1 r2 r3 pc a ix : Nat} {lv : LV} {sk r : List Value} {M : PM} {Q : Option Value → PM → Prop}
theorem wq_getf {fs : List Value} {v : Value} (hM : M[a]? = some (.inr (r1, fs))) (hv : fs[r2]? = some v) (k : Wp c (nx, lv, v :: r, M) Q) : Wq c (.getfield ix, ln, nx, tg, r1, r2, r3) pc lv (.ref a :: r) M Q := by
  refine wq_h rfl rfl rfl ?_ k
  have h : gF (.getfield ix) r1 r2 (.ref a :: r) M = some (v :: r, M) := by
    unfold gF
    try dsimp only
    rw [hM]
    try dsimp only
    rw [Nat.beq_refl]
    try dsimp only
    rw [hv]
  unfold gH
  rw [h]
theorem wq_putf {fs : List Value} {v : Value} (hM : M[a]? = some (.inr (r1, fs))) (ho : (Nat.blt r2 fs.length && okV (nth false (nth [] fkl r1) r2) v) = true) (k : ∀ M1 : PM, M1[a]? = some (.inr (r1, fs.set r2 v)) → Fr (fun q => q = a) M M1 → Wp c (nx, lv, r, M1) Q) : Wq c (.putfield ix, ln, nx, tg, r1, r2, r3) pc lv (v :: .ref a :: r) M Q := by
  refine wq_h rfl rfl rfl ?_ (k _ (get_set hM) (Fr.put hM (by simp [szC])))
  have h : gF (.putfield ix) r1 r2 (v :: .ref a :: r) M = some (r, M.set a (.inr (r1, fs.set r2 v))) := by
    unfold gF
    try dsimp only
    rw [hM]
    try dsimp only
    rw [Nat.beq_refl, ho]
    rfl
  unfold gH
  rw [h]
theorem wq_iald {n : Nat} {g : Nat → Int} {x : Int} (hM : M[a]? = some (aJ n g)) (hx : inR x) (h0 : 0 ≤ x) (h1 : x < n) (k : Wp c (nx, lv, .int (I (g x.toNat)) :: r, M) Q) : Wq c (.iaload, ln, nx, tg, r1, r2, r3) pc lv (.int (I x) :: .ref a :: r) M Q := by
  refine wq_h rfl rfl rfl ?_ k
  have hi := (inA_I (n := n) hx).mpr ⟨h0, h1⟩
  have h : gM .iaload r1 (.int (I x) :: .ref a :: r) M = some (.int (I (g x.toNat)) :: r, M) := by
    unfold gM
    dsimp only
    rw [hM]
    show (match inA (I x) n with | true => some (Value.int (I (g (I x).toNatClampNeg)) :: r, M) | false => none) = _
    rw [hi, I_nat hx]
  unfold gH
  rw [show gF .iaload r1 r2 (.int (I x) :: .ref a :: r) M = none from rfl]
  try dsimp only
  rw [h]
theorem wq_iast {n : Nat} {g : Nat → Int} {x v : Int} (hM : M[a]? = some (aJ n g)) (ha : Nat.blt 0 a = true) (hx : inR x) (h0 : 0 ≤ x) (h1 : x < n) (k : ∀ M1 : PM, M1[a]? = some (aJ n (upz g x.toNat v)) → Fr (fun q => q = a) M M1 → Wp c (nx, lv, r, M1) Q) : Wq c (.iastore, ln, nx, tg, r1, r2, r3) pc lv (.int (I v) :: .int (I x) :: .ref a :: r) M Q := by
  refine wq_h rfl rfl rfl ?_ (k (M.set a (aJ n (upz g x.toNat v))) (get_set hM) (Fr.put hM rfl))
  have hi := (inA_I (n := n) hx).mpr ⟨h0, h1⟩
  have h : gM .iastore r1 (.int (I v) :: .int (I x) :: .ref a :: r) M = some (r, M.set a (aJ n (upz g x.toNat v))) := by
    unfold gM
    dsimp only
    rw [hM]
    show (match inA (I x) n && Nat.blt 0 a with | true => some (r, M.set a (aI n (upd (fun k => I (g k)) (I x).toNatClampNeg (I v)))) | false => none) = _
    rw [hi, ha, I_nat hx, upd_I]
    rfl
  unfold gH
  rw [show gF .iastore r1 r2 (.int (I v) :: .int (I x) :: .ref a :: r) M = none from rfl]
  try dsimp only
  rw [h]
theorem wq_alen {t n : Nat} {x : (Nat → Int32) ⊕ (Nat → Int64) ⊕ (Nat → UInt32) ⊕ (Nat → UInt64) ⊕ (Nat → Option Nat)} (hM : M[a]? = some (.inl (t, n, x))) (ht : Nat.blt t 4 = true) (k : Wp c (nx, lv, .int (I n) :: r, M) Q) : Wq c (.arraylength, ln, nx, tg, r1, r2, r3) pc lv (.ref a :: r) M Q := by
  refine wq_h rfl rfl rfl ?_ k
  have h : gM .arraylength r1 (.ref a :: r) M = some (.int (I n) :: r, M) := by
    unfold gM
    try dsimp only
    rw [hM]
    try dsimp only
    rw [ht]
  unfold gH
  rw [show gF .arraylength r1 r2 (.ref a :: r) M = none from rfl]
  try dsimp only
  rw [h]
theorem wq_aald {t n b : Nat} {f : Nat → Option Nat} {x : Int} (hM : M[a]? = some (aQ t n f)) (ht : (Nat.beq t 2 || Nat.beq t 3) = true) (hx : inR x) (h0 : 0 ≤ x) (h1 : x < n) (hb : f x.toNat = some b) (k : Wp c (nx, lv, .ref b :: r, M) Q) : Wq c (.aaload, ln, nx, tg, r1, r2, r3) pc lv (.int (I x) :: .ref a :: r) M Q := by
  refine wq_h rfl rfl rfl ?_ k
  have hi := (inA_I (n := n) hx).mpr ⟨h0, h1⟩
  have h : gM .aaload r1 (.int (I x) :: .ref a :: r) M = some (.ref b :: r, M) := by
    have hq : ((Nat.beq t 2 || Nat.beq t 3) && inA (I x) n) = true := by rw [hi, ht]; rfl
    unfold gM
    dsimp only
    rw [hM]
    show (match (Nat.beq t 2 || Nat.beq t 3) && inA (I x) n with | true => (match f (I x).toNatClampNeg with | some b => some (Value.ref b :: r, M) | none => none) | false => none) = _
    rw [hq, I_nat hx, hb]
  unfold gH
  rw [show gF .aaload r1 r2 (.int (I x) :: .ref a :: r) M = none from rfl]
  try dsimp only
  rw [h]
theorem wq_aast {t n v ci : Nat} {f : Nat → Option Nat} {fs : List Value} {x : Int} (hM : M[a]? = some (aQ t n f)) (hV : M[v]? = some (.inr (ci, fs))) (ht : ((Nat.beq t 2 && Nat.beq ci 6) || (Nat.beq t 3 && Nat.beq ci 0)) = true) (hx : inR x) (h0 : 0 ≤ x) (h1 : x < n) (k : ∀ M1 : PM, M1[a]? = some (aQ t n (va_up f x.toNat (some v))) → Fr (fun q => q = a) M M1 → Wp c (nx, lv, r, M1) Q) : Wq c (.aastore, ln, nx, tg, r1, r2, r3) pc lv (.ref v :: .int (I x) :: .ref a :: r) M Q := by
  refine wq_h rfl rfl rfl ?_ (k (M.set a (aQ t n (va_up f x.toNat (some v)))) (get_set hM) (Fr.put hM rfl))
  have hi := (inA_I (n := n) hx).mpr ⟨h0, h1⟩
  have h : gM .aastore r1 (.ref v :: .int (I x) :: .ref a :: r) M = some (r, M.set a (aQ t n (va_up f x.toNat (some v)))) := by
    have hq : (((Nat.beq t 2 && Nat.beq ci 6) || (Nat.beq t 3 && Nat.beq ci 0)) && inA (I x) n) = true := by rw [hi, ht]; rfl
    unfold gM
    dsimp only
    rw [hM, hV]
    show (match ((Nat.beq t 2 && Nat.beq ci 6) || (Nat.beq t 3 && Nat.beq ci 0)) && inA (I x) n with | true => some (r, M.set a (aQ t n (va_up f (I x).toNatClampNeg (some v)))) | false => none) = _
    rw [hq, I_nat hx]
  unfold gH
  rw [show gF .aastore r1 r2 (.ref v :: .int (I x) :: .ref a :: r) M = none from rfl]
  try dsimp only
  rw [h]
theorem wq_bald {n : Nat} {g : Nat → Int} {x : Int} (hM : M[a]? = some (aZ n (fun k => I (g k)))) (hx : inR x) (h0 : 0 ≤ x) (h1 : x < n) (k : Wp c (nx, lv, .int (I (g x.toNat)) :: r, M) Q) : Wq c (.baload, ln, nx, tg, r1, r2, r3) pc lv (.int (I x) :: .ref a :: r) M Q := by
  refine wq_h rfl rfl rfl ?_ k
  have hi := (inA_I (n := n) hx).mpr ⟨h0, h1⟩
  have h : gM .baload r1 (.int (I x) :: .ref a :: r) M = some (.int (I (g x.toNat)) :: r, M) := by
    unfold gM
    dsimp only
    rw [hM]
    show (match inA (I x) n with | true => some (Value.int (I (g (I x).toNatClampNeg)) :: r, M) | false => none) = _
    rw [hi, I_nat hx]
  unfold gH
  rw [show gF .baload r1 r2 (.int (I x) :: .ref a :: r) M = none from rfl]
  try dsimp only
  rw [h]
theorem wq_bast1 {n : Nat} {g : Nat → Int} {x : Int} (hM : M[a]? = some (aZ n (fun k => I (g k)))) (hx : inR x) (h0 : 0 ≤ x) (h1 : x < n) (k : ∀ M1 : PM, M1[a]? = some (aZ n (fun k => I (upz g x.toNat 1 k))) → Fr (fun q => q = a) M M1 → Wp c (nx, lv, r, M1) Q) : Wq c (.bastore, ln, nx, tg, r1, r2, r3) pc lv (.int (I 1) :: .int (I x) :: .ref a :: r) M Q := by
  refine wq_h rfl rfl rfl ?_ (k (M.set a (aZ n (fun k => I (upz g x.toNat 1 k)))) (get_set hM) (Fr.put hM rfl))
  have hi := (inA_I (n := n) hx).mpr ⟨h0, h1⟩
  have h : gM .bastore r1 (.int (I 1) :: .int (I x) :: .ref a :: r) M = some (r, M.set a (aZ n (fun k => I (upz g x.toNat 1 k)))) := by
    unfold gM
    dsimp only
    rw [hM]
    show (match inA (I x) n && (decide (I 1 = 0) || decide (I 1 = 1)) with | true => some (r, M.set a (aZ n (upd (fun k => I (g k)) (I x).toNatClampNeg (I 1)))) | false => none) = _
    rw [hi, show (decide (I 1 = 0) || decide (I 1 = 1)) = true by decide, I_nat hx, upd_I]
    rfl
  unfold gH
  rw [show gF .bastore r1 r2 (.int (I 1) :: .int (I x) :: .ref a :: r) M = none from rfl]
  try dsimp only
  rw [h]
/-- making: the cell comes last -/
theorem wq_new (k : Wp c (nx, lv, .ref M.length :: sk, M ++ [.inr (r1, nth [] dfl r1)]) Q) : Wq c (.new ix, ln, nx, tg, r1, r2, r3) pc lv sk M Q := wq_h rfl rfl rfl rfl k
theorem wq_newa {x : Int} (hx : inR x) (h0 : 0 ≤ x) (h1 : x ≤ 134217728) (k : Wp c (nx, lv, .ref M.length :: r, M ++ [aJ x.toNat (fun _ => 0)]) Q) : Wq c (.newarray .int, ln, nx, tg, r1, r2, r3) pc lv (.int (I x) :: r) M Q := by
  refine wq_h rfl rfl rfl ?_ k
  have h : gM (.newarray .int) r1 (.int (I x) :: r) M = some (.ref M.length :: r, M ++ [aJ x.toNat (fun _ => 0)]) := by
    unfold gM
    try dsimp only
    rw [I_nat hx, I_0, decide_eq_false (fun z => by have := (I_lt hx inR_0).mp z; omega)]
    cases hq : Nat.blt 134217728 x.toNat with
    | true => rw [Nat.blt_eq] at hq; omega
    | false => rfl
  unfold gH
  rw [show gF (.newarray .int) r1 r2 (.int (I x) :: r) M = none from rfl]
  try dsimp only
  rw [h]
theorem wq_newz {x : Int} (hx : inR x) (h0 : 0 ≤ x) (h1 : x ≤ 134217728) (k : Wp c (nx, lv, .ref M.length :: r, M ++ [aZ x.toNat (fun _ => I 0)]) Q) : Wq c (.newarray .boolean, ln, nx, tg, r1, r2, r3) pc lv (.int (I x) :: r) M Q := by
  refine wq_h rfl rfl rfl ?_ k
  have h : gM (.newarray .boolean) r1 (.int (I x) :: r) M = some (.ref M.length :: r, M ++ [aZ x.toNat (fun _ => I 0)]) := by
    unfold gM
    try dsimp only
    rw [I_nat hx, I_0, decide_eq_false (fun z => by have := (I_lt hx inR_0).mp z; omega)]
    cases hq : Nat.blt 134217728 x.toNat with
    | true => rw [Nat.blt_eq] at hq; omega
    | false => rfl
  unfold gH
  rw [show gF (.newarray .boolean) r1 r2 (.int (I x) :: r) M = none from rfl]
  try dsimp only
  rw [h]
theorem wq_newq {x : Int} (hx : inR x) (h0 : 0 ≤ x) (h1 : x ≤ 134217728) (k : Wp c (nx, lv, .ref M.length :: r, M ++ [aQ r1 x.toNat (fun _ => none)]) Q) : Wq c (.anewarray ix, ln, nx, tg, r1, r2, r3) pc lv (.int (I x) :: r) M Q := by
  refine wq_h rfl rfl rfl ?_ k
  have h : gM (.anewarray ix) r1 (.int (I x) :: r) M = some (.ref M.length :: r, M ++ [aQ r1 x.toNat (fun _ => none)]) := by
    unfold gM
    try dsimp only
    rw [I_nat hx, I_0, decide_eq_false (fun z => by have := (I_lt hx inR_0).mp z; omega)]
    cases hq : Nat.blt 134217728 x.toNat with
    | true => rw [Nat.blt_eq] at hq; omega
    | false => rfl
  unfold gH
  rw [show gF (.anewarray ix) r1 r2 (.int (I x) :: r) M = none from rfl]
  try dsimp only
  rw [h]
theorem wq_oinit {b : Nat} (hc : Nat.ble (catS r) 8 = true) (k : Wp c (nx, lv, r, M) Q) : Wq c (.invokespecial ix, ln, nx, 4, r1, r2, r3) pc lv (.ref b :: r) M Q := by
  refine wq_h rfl rfl rfl ?_ k
  have h : gN (.invokespecial ix) 4 (.ref b :: r) M = some (r, M) := by
    unfold gN
    try dsimp only
    rw [hc]
    try rfl
  unfold gH
  rw [show gF (.invokespecial ix) r1 r2 (.ref b :: r) M = none from rfl, show gM (.invokespecial ix) r1 (.ref b :: r) M = none from rfl]
  try dsimp only
  rw [h]
def cpz (f g : Nat → Int) (sp dp n : Nat) : Nat → Int := fun k => if dp ≤ k ∧ k < dp + n then f (sp + (k - dp)) else g k
theorem wq_acopy {a0 n0 n1 : Nat} {f g : Nat → Int} {sp dp n : Int} (hM0 : M[a0]? = some (aJ n0 f)) (hM : M[a]? = some (aJ n1 g)) (ha : Nat.beq a 0 = false) (ha0 : Nat.beq a0 0 = false) (hs : inR sp) (hd : inR dp) (hn : inR n) (s0 : 0 ≤ sp) (d0 : 0 ≤ dp) (m0 : 0 ≤ n) (h1 : sp + n ≤ n0) (h2 : dp + n ≤ n1) (hc : Nat.blt 8 (catS r) = false)
    (k : ∀ M1 : PM, M1[a]? = some (aJ n1 (cpz f g sp.toNat dp.toNat n.toNat)) → Fr (fun q => q = a) M M1 → Wp c (nx, lv, r, M1) Q) : Wq c (.invokestatic ix, ln, nx, 5, r1, r2, r3) pc lv (.int (I n) :: .int (I dp) :: .ref a :: .int (I sp) :: .ref a0 :: r) M Q := by
  refine wq_h rfl rfl rfl ?_ (k (M.set a (aJ n1 (cpz f g sp.toNat dp.toNat n.toNat))) (get_set hM) (Fr.put hM rfl))
  have h : gN (.invokestatic ix) 5 (.int (I n) :: .int (I dp) :: .ref a :: .int (I sp) :: .ref a0 :: r) M = some (r, M.set a (aJ n1 (cpz f g sp.toNat dp.toNat n.toNat))) := by
    have e1 : Nat.blt n0 (sp.toNat + n.toNat) = false := by
      cases hq : Nat.blt n0 (sp.toNat + n.toNat) with
      | true => rw [Nat.blt_eq] at hq; omega
      | false => rfl
    have e2 : Nat.blt n1 (dp.toNat + n.toNat) = false := by
      cases hq : Nat.blt n1 (dp.toNat + n.toNat) with
      | true => rw [Nat.blt_eq] at hq; omega
      | false => rfl
    have ecp : va_cpy (fun k => I (f k)) (fun k => I (g k)) sp.toNat dp.toNat n.toNat = fun k => I (cpz f g sp.toNat dp.toNat n.toNat k) := by
      funext k
      unfold va_cpy cpz
      split <;> rfl
    unfold gN
    dsimp only
    rw [hM0, hM]
    show (match decide (I sp < 0) || decide (I dp < 0) || decide (I n < 0) || Nat.blt n0 ((I sp).toNatClampNeg + (I n).toNatClampNeg) || Nat.blt n1 ((I dp).toNatClampNeg + (I n).toNatClampNeg) || Nat.beq a 0 || Nat.beq a0 0 || Nat.blt 8 (catS r) with | true => none | false => some (r, M.set a (aI n1 (va_cpy (fun k => I (f k)) (fun k => I (g k)) (I sp).toNatClampNeg (I dp).toNatClampNeg (I n).toNatClampNeg)))) = _
    rw [I_nat hs, I_nat hd, I_nat hn, I_0, decide_eq_false (fun z => by have := (I_lt hs inR_0).mp z; omega), decide_eq_false (fun z => by have := (I_lt hd inR_0).mp z; omega), decide_eq_false (fun z => by have := (I_lt hn inR_0).mp z; omega), e1, e2, ha, ha0, hc, ecp]
    rfl
  unfold gH
  rw [show gF (.invokestatic ix) r1 r2 (.int (I n) :: .int (I dp) :: .ref a :: .int (I sp) :: .ref a0 :: r) M = none from rfl, show gM (.invokestatic ix) r1 (.int (I n) :: .int (I dp) :: .ref a :: .int (I sp) :: .ref a0 :: r) M = none from rfl]
  try dsimp only
  rw [h]
/-- a static call -/
theorem wq_cs {as : List Value} (hk : gN (.invokestatic ix) tg sk M = none) (h : gI (.invokestatic ix) tg r2 r3 sk M = some (as, r)) (k : Wm r1 as M (fun v M' => Wp c (nx, lv, v.toList ++ r, M') Q)) : Wq c (.invokestatic ix, ln, nx, tg, r1, r2, r3) pc lv sk M Q := by
  refine wq_i rfl rfl rfl ?_ rfl rfl h k
  unfold gH
  rw [show gF (.invokestatic ix) r1 r2 sk M = none from rfl, show gM (.invokestatic ix) r1 sk M = none from rfl]
  dsimp only
  rw [hk]
theorem wq_ci {as : List Value} (hk : gN (.invokespecial ix) tg sk M = none) (h : gI (.invokespecial ix) tg r2 r3 sk M = some (as, r)) (k : Wm r1 as M (fun v M' => Wp c (nx, lv, v.toList ++ r, M') Q)) : Wq c (.invokespecial ix, ln, nx, tg, r1, r2, r3) pc lv sk M Q := by
  refine wq_i rfl rfl rfl ?_ rfl rfl h k
  unfold gH
  rw [show gF (.invokespecial ix) r1 r2 sk M = none from rfl, show gM (.invokespecial ix) r1 sk M = none from rfl]
  dsimp only
  rw [hk]
/-- a call of an object's method -/
theorem wq_cv {b : Nat} {As : List Value} {fs : List Value} (hs : (Nat.ble r2 sk.length && Nat.ble (catS (sk.drop r2)) 8) = true) (ha : (sk.take r2).reverse = .ref b :: As) (hr : sk.drop r2 = r) (hM : M[b]? = some (.inr (r3, fs))) (k : Wm r1 (.ref b :: As) M (fun v M' => Wp c (nx, lv, v.toList ++ r, M') Q)) : Wq c (.invokevirtual ix, ln, nx, 1, r1, r2, r3) pc lv sk M Q := by
  refine wq_i (as := .ref b :: As) (r := r) rfl rfl rfl rfl rfl rfl ?_ k
  subst hr
  unfold gI
  rw [hs]
  dsimp only
  rw [ha]
  dsimp only
  rw [hM]
  dsimp only
  rw [Nat.beq_refl]
  try rfl
end MEM
end
section
/-! Fewer locals, in another order. -/
section SUBL
def lfun (lv : LV) : Prop := ∀ k v v', (k, v) ∈ lv → (k, v') ∈ lv → v = v'
def lrel (l1 l2 : LV) : Prop := (∀ q ∈ l1, q ∈ l2) ∧ lfun l2
theorem lget_some {lv : LV} (hf : lfun lv) : ∀ {l : LV} {k : Nat} {v : Value}, (∀ q ∈ l, q ∈ lv) → (k, v) ∈ l → lget l k = some v
  | [], _, _, _, h => absurd h List.not_mem_nil
  | q :: r, k, v, hs, h => by
    unfold lget
    split
    · rename_i e
      have e := Nat.eq_of_beq_eq_true e
      have h1 : (k, q.2) ∈ lv := by
        have := hs q List.mem_cons_self
        rw [← e]
        exact this
      rw [hf k q.2 v h1 (hs _ h)]
    · rename_i e
      rcases List.mem_cons.mp h with e2 | h
      · rw [← e2] at e
        rw [Nat.beq_refl] at e
        cases e
      · exact lget_some hf (fun z hz => hs z (List.mem_cons_of_mem _ hz)) h
theorem lrel.get {l1 l2 : LV} (h : lrel l1 l2) {k : Nat} {v : Value} (hg : lget l1 k = some v) : lget l2 k = some v :=
  lget_some h.2 (fun _ hq => hq) (h.1 _ (lget_mem hg))
theorem mem_ldel1 {i : Nat} {q : Nat × Value} : ∀ {lv : LV}, q ∈ ldel1 i lv ↔ q ∈ lv ∧ (Nat.beq q.1 i || (Nat.beq (q.1 + 1) i && cat2 q.2)) = false
  | [] => by simp [ldel1]
  | z :: r => by
    have ih := mem_ldel1 (i := i) (q := q) (lv := r)
    unfold ldel1
    split
    · rename_i e
      rw [ih, List.mem_cons]
      constructor
      · exact fun h => ⟨Or.inr h.1, h.2⟩
      · rintro ⟨h1 | h1, h2⟩
        · rw [h1, e] at h2; cases h2
        · exact ⟨h1, h2⟩
    · rename_i e
      rw [List.mem_cons, ih, List.mem_cons]
      constructor
      · rintro (h | h)
        · exact ⟨Or.inl h, by rw [h]; exact e⟩
        · exact ⟨Or.inr h.1, h.2⟩
      · rintro ⟨h1 | h1, h2⟩
        · exact Or.inl h1
        · exact Or.inr ⟨h1, h2⟩
theorem mem_ldel2 {i : Nat} {q : Nat × Value} : ∀ {lv : LV}, q ∈ ldel2 i lv ↔ q ∈ lv ∧ (Nat.beq q.1 i || (Nat.beq q.1 (i + 1) || (Nat.beq (q.1 + 1) i && cat2 q.2))) = false
  | [] => by simp [ldel2]
  | z :: r => by
    have ih := mem_ldel2 (i := i) (q := q) (lv := r)
    unfold ldel2
    split
    · rename_i e
      rw [ih, List.mem_cons]
      constructor
      · exact fun h => ⟨Or.inr h.1, h.2⟩
      · rintro ⟨h1 | h1, h2⟩
        · rw [h1, e] at h2; cases h2
        · exact ⟨h1, h2⟩
    · rename_i e
      rw [List.mem_cons, ih, List.mem_cons]
      constructor
      · rintro (h | h)
        · exact ⟨Or.inl h, by rw [h]; exact e⟩
        · exact ⟨Or.inr h.1, h.2⟩
      · rintro ⟨h1 | h1, h2⟩
        · exact Or.inl h1
        · exact Or.inr ⟨h1, h2⟩
theorem lrel.st1 {l1 l2 : LV} (h : lrel l1 l2) (i : Nat) (v : Value) : lrel (lst1 i v l1) (lst1 i v l2) := by
  refine ⟨fun q hq => ?_, fun k v1 v2 h1 h2 => ?_⟩
  · rcases List.mem_cons.mp hq with e | hq
    · rw [e]; exact List.mem_cons_self
    · have := mem_ldel1.mp hq
      exact List.mem_cons_of_mem _ (mem_ldel1.mpr ⟨h.1 _ this.1, this.2⟩)
  · rcases List.mem_cons.mp h1 with e1 | h1 <;> rcases List.mem_cons.mp h2 with e2 | h2
    · cases e1; cases e2; rfl
    · cases e1
      have := (mem_ldel1.mp h2).2
      rw [Bool.or_eq_false_iff] at this
      have := this.1
      rw [Nat.beq_refl] at this
      cases this
    · cases e2
      have := (mem_ldel1.mp h1).2
      rw [Bool.or_eq_false_iff] at this
      have := this.1
      rw [Nat.beq_refl] at this
      cases this
    · exact h.2 k v1 v2 (mem_ldel1.mp h1).1 (mem_ldel1.mp h2).1
theorem lrel.st2 {l1 l2 : LV} (h : lrel l1 l2) (i : Nat) (v : Value) : lrel (lst2 i v l1) (lst2 i v l2) := by
  refine ⟨fun q hq => ?_, fun k v1 v2 h1 h2 => ?_⟩
  · rcases List.mem_cons.mp hq with e | hq
    · rw [e]; exact List.mem_cons_self
    · have := mem_ldel2.mp hq
      exact List.mem_cons_of_mem _ (mem_ldel2.mpr ⟨h.1 _ this.1, this.2⟩)
  · rcases List.mem_cons.mp h1 with e1 | h1 <;> rcases List.mem_cons.mp h2 with e2 | h2
    · cases e1; cases e2; rfl
    · cases e1
      have := (mem_ldel2.mp h2).2
      rw [Bool.or_eq_false_iff] at this
      have := this.1
      rw [Nat.beq_refl] at this
      cases this
    · cases e2
      have := (mem_ldel2.mp h1).2
      rw [Bool.or_eq_false_iff] at this
      have := this.1
      rw [Nat.beq_refl] at this
      cases this
    · exact h.2 k v1 v2 (mem_ldel2.mp h1).1 (mem_ldel2.mp h2).1
def isLd : Instr → Bool
  | .aload_n _ => true
  | .aload _ => true
  | .iload_n _ => true
  | .iload _ => true
  | .lload_n _ => true
  | .lload _ => true
  | .fload_n _ => true
  | .dload_n _ => true
  | .dload _ => true
  | _ => false
def isSt : Instr → Bool
  | .istore_n _ => true
  | .istore _ => true
  | .lstore _ => true
  | .dstore _ => true
  | .fstore_n _ => true
  | .astore_n _ => true
  | .astore _ => true
  | .iinc _ _ => true
  | _ => false
theorem isLd_none {i : Instr} (h : isLd i = true) (r1 r2 r3 tg pc : Nat) (lv : LV) (sk : List Value) (M : PM) (ret : Option FieldType) : gC i r1 r2 sk = none ∧ gD i sk = none ∧ gE i sk = none ∧ gB i lv sk = none ∧ gG i sk = none ∧ gH i tg r1 r2 sk M = none ∧ gS i pc sk = none ∧ gR ret i sk = none ∧ gI i tg r2 r3 sk M = none := by
  have hI : gI i tg r2 r3 sk M = none := by
    cases hg : gI i tg r2 r3 sk M with
    | none => rfl
    | some z =>
      have hk := (gI_inv (as := z.1) (r := z.2) hg).2.2.2.2
      cases i <;> first | exact hk.elim | cases h
  refine ⟨?_, ?_, ?_, ?_, ?_, ?_, ?_, ?_, hI⟩ <;> cases i <;> first | rfl | cases h
theorem isSt_none {i : Instr} (h : isSt i = true) (r1 r2 r3 tg pc : Nat) (sk : List Value) (M : PM) (ret : Option FieldType) : gG i sk = none ∧ gH i tg r1 r2 sk M = none ∧ gS i pc sk = none ∧ gR ret i sk = none ∧ gI i tg r2 r3 sk M = none := by
  have hI : gI i tg r2 r3 sk M = none := by
    cases hg : gI i tg r2 r3 sk M with
    | none => rfl
    | some z =>
      have hk := (gI_inv (as := z.1) (r := z.2) hg).2.2.2.2
      cases i <;> first | exact hk.elim | cases h
  refine ⟨?_, ?_, ?_, ?_, hI⟩ <;> cases i <;> first | rfl | cases h
theorem noLd {i : Instr} (h : isLd i = false) (lv : LV) : gA i lv = none := by
  cases i <;> first | rfl | cases h
theorem noSt {i : Instr} (h : isSt i = false) (lv : LV) (sk : List Value) : gB i lv sk = none := by
  cases i <;> first | rfl | cases h
theorem gA_rel {l1 l2 : LV} (h : lrel l1 l2) {i : Instr} {v : Value} (hg : gA i l1 = some v) : gA i l2 = some v := by
  unfold gA at hg ⊢
  split at hg
  · obtain ⟨a, h1, rfl⟩ := wR_inv hg; rw [h.get h1]; rfl
  · obtain ⟨a, h1, rfl⟩ := wR_inv hg; rw [h.get h1]; rfl
  · obtain ⟨a, h1, rfl⟩ := wI_inv hg; rw [h.get h1]; rfl
  · obtain ⟨a, h1, rfl⟩ := wI_inv hg; rw [h.get h1]; rfl
  · obtain ⟨a, h1, rfl⟩ := wL_inv hg; rw [h.get h1]; rfl
  · obtain ⟨a, h1, rfl⟩ := wL_inv hg; rw [h.get h1]; rfl
  · obtain ⟨a, h1, rfl⟩ := wF_inv hg; rw [h.get h1]; rfl
  · obtain ⟨a, h1, rfl⟩ := wD_inv hg; rw [h.get h1]; rfl
  · obtain ⟨a, h1, rfl⟩ := wD_inv hg; rw [h.get h1]; rfl
  · cases hg
theorem gB_rel {l1 l2 : LV} (h : lrel l1 l2) {i : Instr} {sk sk' : List Value} {l1' : LV} (hg : gB i l1 sk = some (l1', sk')) : ∃ l2', gB i l2 sk = some (l2', sk') ∧ lrel l1' l2' := by
  unfold gB at hg ⊢
  split at hg
  · split at hg
    · cases hg; exact ⟨_, rfl, h.st1 _ _⟩
    · cases hg
  · split at hg
    · cases hg; exact ⟨_, rfl, h.st1 _ _⟩
    · cases hg
  · split at hg
    · cases hg; exact ⟨_, rfl, h.st2 _ _⟩
    · cases hg
  · split at hg
    · cases hg; exact ⟨_, rfl, h.st2 _ _⟩
    · cases hg
  · split at hg
    · cases hg; exact ⟨_, rfl, h.st1 _ _⟩
    · cases hg
  · split at hg
    · cases hg; exact ⟨_, rfl, h.st1 _ _⟩
    · cases hg
  · split at hg
    · cases hg; exact ⟨_, rfl, h.st1 _ _⟩
    · cases hg
  · split at hg
    · rename_i h1
      cases hg
      rw [h.get h1]
      exact ⟨_, rfl, h.st1 _ _⟩
    · cases hg
  · cases hg
theorem stp_rel {c : MM} {pc : Nat} {l1 l2 : LV} {sk : List Value} {M : PM} (h : lrel l1 l2) {z : CF ⊕ Option Value ⊕ (Nat × List Value × List Value × Nat)} (hs : stp c (pc, l1, sk, M) = some z) :
    (∃ pc' l1' l2' sk' M', z = .inl (pc', l1', sk', M') ∧ stp c (pc, l2, sk, M) = some (.inl (pc', l2', sk', M')) ∧ lrel l1' l2') ∨ ((∃ w, z = .inr w) ∧ stp c (pc, l2, sk, M) = some z) := by
  dsimp only [stp] at hs ⊢
  cases hf : fe c.2 pc with
  | none => rw [hf] at hs; cases hs
  | some t =>
    obtain ⟨i, ln, nx, tg, r1, r2, r3⟩ := t
    rw [hf] at hs
    dsimp only at hs ⊢
    cases ha : gA i l1 with
    | some v =>
      have e1 : gK i l1 r1 r2 sk = some (v :: sk) := by unfold gK; rw [ha]
      have e2 : gK i l2 r1 r2 sk = some (v :: sk) := by unfold gK; rw [gA_rel h ha]
      rw [e1] at hs
      rw [e2]
      dsimp only at hs ⊢
      cases hs
      exact Or.inl ⟨_, _, _, _, _, rfl, rfl, h⟩
    | none =>
      cases hld : isLd i with
      | true =>
        obtain ⟨q1, q2, q3, q4, q5, q6, q7, q8, q9⟩ := isLd_none hld r1 r2 r3 tg pc l1 sk M c.1
        have e1 : gK i l1 r1 r2 sk = none := by unfold gK; rw [ha, q1, q2, q3]
        rw [e1, q4, q5, q6, q7, q8, q9] at hs
        cases hs
      | false =>
        have e1 : gK i l1 r1 r2 sk = gK i l2 r1 r2 sk := by unfold gK; rw [noLd hld, noLd hld]
        rw [e1] at hs
        cases hk : gK i l2 r1 r2 sk with
        | some sk' =>
          rw [hk] at hs
          dsimp only at hs ⊢
          cases hs
          exact Or.inl ⟨_, _, _, _, _, rfl, rfl, h⟩
        | none =>
          rw [hk] at hs
          dsimp only at hs ⊢
          cases hb : gB i l1 sk with
          | some w =>
            obtain ⟨l1', sk'⟩ := w
            obtain ⟨l2', hb2, hr⟩ := gB_rel h hb
            rw [hb] at hs
            rw [hb2]
            dsimp only at hs ⊢
            cases hs
            exact Or.inl ⟨_, _, _, _, _, rfl, rfl, hr⟩
          | none =>
            cases hst : isSt i with
            | true =>
              obtain ⟨q5, q6, q7, q8, q9⟩ := isSt_none hst r1 r2 r3 tg pc sk M c.1
              rw [hb, q5, q6, q7, q8, q9] at hs
              cases hs
            | false =>
              rw [noSt hst] at hs
              rw [noSt hst]
              dsimp only at hs ⊢
              cases hg : gG i sk with
              | some w =>
                rw [hg] at hs
                dsimp only at hs ⊢
                cases hs
                exact Or.inl ⟨_, _, _, _, _, rfl, rfl, h⟩
              | none =>
                rw [hg] at hs
                dsimp only at hs ⊢
                cases hh : gH i tg r1 r2 sk M with
                | some w =>
                  rw [hh] at hs
                  dsimp only at hs ⊢
                  cases hs
                  exact Or.inl ⟨_, _, _, _, _, rfl, rfl, h⟩
                | none =>
                  rw [hh] at hs
                  dsimp only at hs ⊢
                  cases hss : gS i pc sk with
                  | some w =>
                    rw [hss] at hs
                    dsimp only at hs ⊢
                    cases hs
                    exact Or.inl ⟨_, _, _, _, _, rfl, rfl, h⟩
                  | none =>
                    rw [hss] at hs
                    dsimp only at hs ⊢
                    refine Or.inr ⟨?_, hs⟩
                    cases hr : gR c.1 i sk with
                    | some w =>
                      rw [hr] at hs
                      dsimp only at hs
                      cases hs
                      exact ⟨_, rfl⟩
                    | none =>
                      rw [hr] at hs
                      dsimp only at hs
                      cases hi : gI i tg r2 r3 sk M with
                      | some w =>
                        rw [hi] at hs
                        dsimp only at hs
                        cases hs
                        exact ⟨_, rfl⟩
                      | none =>
                        rw [hi] at hs
                        cases hs
theorem run_rel (n : Nat) : ∀ (c : MM) (pc : Nat) (l1 l2 : LV) (sk : List Value) (M : PM) (r : Option Value × PM), lrel l1 l2 → run n c (pc, l1, sk, M) = some r → run n c (pc, l2, sk, M) = some r := by
  induction n with
  | zero => intro c pc l1 l2 sk M r h hr; cases hr
  | succ n ih =>
    intro c pc l1 l2 sk M r h hr
    unfold run at hr ⊢
    cases hs : stp c (pc, l1, sk, M) with
    | none => rw [hs] at hr; cases hr
    | some z =>
      rw [hs] at hr
      rcases stp_rel h hs with ⟨pc', l1', l2', sk', M', rfl, e, hl⟩ | ⟨⟨w, rfl⟩, e⟩
      · rw [e]
        exact ih c pc' l1' l2' sk' M' r hl hr
      · rw [e]
        rcases w with v | ⟨y, as, rr, nx⟩
        · exact hr
        · dsimp only at hr ⊢
          cases hb : Nat.ble (catS as) (mi y).2.2.1 with
          | false => rw [hb] at hr; cases hr
          | true =>
            rw [hb] at hr
            dsimp only at hr ⊢
            cases h1 : run n (mm y) (0, lvs 0 as, [], M) with
            | none => rw [h1] at hr; cases hr
            | some w =>
              rw [h1] at hr
              dsimp only at hr ⊢
              exact ih c nx l1 l2 _ _ r h hr
def lsb : LV → LV → Prop
  | [], _ => True
  | q :: r, lv => lget lv q.1 = some q.2 ∧ lsb r lv
def lnk (k : Nat) : LV → Bool
  | [] => true
  | q :: r => match Nat.beq q.1 k with
    | true => false
    | false => lnk k r
def lnd : LV → Bool
  | [] => true
  | q :: r => lnk q.1 r && lnd r
theorem lnk_ne {k : Nat} : ∀ {l : LV}, lnk k l = true → ∀ q ∈ l, q.1 ≠ k
  | [], _, _, h => absurd h List.not_mem_nil
  | z :: r, hl, q, h => by
    unfold lnk at hl
    split at hl
    · cases hl
    · rename_i e
      rcases List.mem_cons.mp h with e2 | h
      · rw [e2]
        intro e3
        rw [e3, Nat.beq_refl] at e
        cases e
      · exact lnk_ne hl q h
theorem lnd_fun : ∀ {l : LV}, lnd l = true → lfun l
  | [], _ => fun _ _ _ h => absurd h List.not_mem_nil
  | z :: r, hl => by
    have h1 := and1 hl
    have h2 := lnd_fun (and2 hl)
    intro k v1 v2 m1 m2
    rcases List.mem_cons.mp m1 with e1 | m1 <;> rcases List.mem_cons.mp m2 with e2 | m2
    · rw [← e1] at e2; exact (congrArg Prod.snd e2).symm
    · (have e3 : k = z.1 := congrArg Prod.fst e1); exact absurd e3 (lnk_ne h1 (k, v2) m2)
    · (have e3 : k = z.1 := congrArg Prod.fst e2); exact absurd e3 (lnk_ne h1 (k, v1) m1)
    · exact h2 k v1 v2 m1 m2
theorem lsb_mem {lv : LV} : ∀ {l : LV}, lsb l lv → ∀ q ∈ l, q ∈ lv
  | [], _, _, h => absurd h List.not_mem_nil
  | z :: r, hl, q, h => by
    rcases List.mem_cons.mp h with e | h
    · rw [e]; exact lget_mem hl.1
    · exact lsb_mem hl.2 q h
theorem Wp.sub {c : MM} {pc : Nat} {l1 l2 : LV} {sk : List Value} {M : PM} {Q : Option Value → PM → Prop} (h : Wp c (pc, l1, sk, M) Q) (hs : lsb l1 l2) (hn : lnd l2 = true) : Wp c (pc, l2, sk, M) Q := by
  obtain ⟨n, v, M', h1, h2⟩ := h
  exact ⟨n, v, M', run_rel n c pc l1 l2 sk M _ ⟨lsb_mem hs, lnd_fun hn⟩ h1, h2⟩
end SUBL
end
section
/-! The rows of symbols (class Row): its object at a, its array at a + 1. -/
def Rw (M : PM) (a : Nat) (xs : List Int) : Prop := ∃ g : Nat → Int, M[a]? = some (.inr (6, [.ref (a + 1), .int (I xs.length)])) ∧ M[a + 1]? = some (aJ 80 g) ∧ xs.length ≤ 80 ∧ ∀ k, k < xs.length → xs[k]? = some (g k)
/-- what stands at a place of a row; -6 where nothing does -/
def rat (xs : List Int) (p : Int) : Int := if p < 0 then -6 else xs.getD p.toNat (-6)
def rset (xs : List Int) (p s : Int) : List Int := if p < 0 then xs else xs.set p.toNat s
theorem rat_in {xs : List Int} {p : Int} {z : Int} (h0 : 0 ≤ p) (h : xs[p.toNat]? = some z) : rat xs p = z := by
  unfold rat
  rw [if_neg (by omega), List.getD_eq_getElem?_getD, h]
  rfl
theorem rat_out {xs : List Int} {p : Int} (h : p < 0 ∨ (xs.length : Int) ≤ p) : rat xs p = -6 := by
  unfold rat
  split
  · rfl
  · rw [List.getD_eq_getElem?_getD, List.getElem?_eq_none (by omega)]
    rfl
theorem Rw.fr {P : Nat → Prop} {M M' : PM} {a : Nat} {xs : List Int} (h : Rw M a xs) (f : Fr P M M') (h1 : ¬ P a) (h2 : ¬ P (a + 1)) : Rw M' a xs := by
  obtain ⟨g, q1, q2, q3⟩ := h
  exact ⟨g, f.at h1 q1, f.at h2 q2, q3⟩
theorem Rw.len {M : PM} {a : Nat} {xs : List Int} (h : Rw M a xs) : xs.length ≤ 80 := by
  obtain ⟨g, q1, q2, q3, q4⟩ := h
  exact q3
theorem c_Row_size {M : PM} {a : Nat} {xs : List Int} (h : Rw M a xs) : Wm 65 [.ref a] M (fun v M' => v = some (.int (I xs.length)) ∧ M' = M) := by
  obtain ⟨g, h1, h2, h3, h4⟩ := h
  refine wm_in (lv := _) rfl rfl rfl ?_
  repeat' (refine wf rfl ?_; first | refine wq_iadd ?_ | refine wq_isub ?_ | refine wq_imul ?_ | refine wq_iinc rfl ?_ | refine wq_goto ?_ | refine wq_k rfl ?_ | refine wq_b rfl rfl ?_ | refine wq_getf (by assumption) rfl ?_ | refine wq_alen (by assumption) rfl ?_ | (refine wq_eq ⟨by omega, by omega⟩ ⟨by omega, by omega⟩ (fun _ => ?_) (fun _ => ?_) <;> try (exfalso; omega)) | (refine wq_ne ⟨by omega, by omega⟩ ⟨by omega, by omega⟩ (fun _ => ?_) (fun _ => ?_) <;> try (exfalso; omega)) | (refine wq_lt ⟨by omega, by omega⟩ ⟨by omega, by omega⟩ (fun _ => ?_) (fun _ => ?_) <;> try (exfalso; omega)) | (refine wq_ge ⟨by omega, by omega⟩ ⟨by omega, by omega⟩ (fun _ => ?_) (fun _ => ?_) <;> try (exfalso; omega)) | (refine wq_gt ⟨by omega, by omega⟩ ⟨by omega, by omega⟩ (fun _ => ?_) (fun _ => ?_) <;> try (exfalso; omega)) | (refine wq_le ⟨by omega, by omega⟩ ⟨by omega, by omega⟩ (fun _ => ?_) (fun _ => ?_) <;> try (exfalso; omega)) | (refine wq_ifeq ⟨by omega, by omega⟩ (fun _ => ?_) (fun _ => ?_) <;> try (exfalso; omega)) | (refine wq_ifne ⟨by omega, by omega⟩ (fun _ => ?_) (fun _ => ?_) <;> try (exfalso; omega)) | (refine wq_iflt ⟨by omega, by omega⟩ (fun _ => ?_) (fun _ => ?_) <;> try (exfalso; omega)) | (refine wq_ifge ⟨by omega, by omega⟩ (fun _ => ?_) (fun _ => ?_) <;> try (exfalso; omega)) | (refine wq_ifgt ⟨by omega, by omega⟩ (fun _ => ?_) (fun _ => ?_) <;> try (exfalso; omega)) | (refine wq_ifle ⟨by omega, by omega⟩ (fun _ => ?_) (fun _ => ?_) <;> try (exfalso; omega)) | refine wq_r rfl rfl rfl rfl rfl rfl ?_)
  exact ⟨rfl, rfl⟩
theorem c_Row_has {M : PM} {a : Nat} {xs : List Int} {p : Int} (hp : inR p) (h : Rw M a xs) : Wm 66 [.ref a, .int (I p)] M (fun v M' => v = some (.int (I (if 0 ≤ p ∧ p < xs.length then 1 else 0))) ∧ M' = M) := by
  obtain ⟨hp1, hp2⟩ := hp
  obtain ⟨g, h1, h2, h3, h4⟩ := h
  refine wm_in (lv := _) rfl rfl rfl ?_
  repeat' (refine wf rfl ?_; first | refine wq_iadd ?_ | refine wq_isub ?_ | refine wq_imul ?_ | refine wq_iinc rfl ?_ | refine wq_goto ?_ | refine wq_k rfl ?_ | refine wq_b rfl rfl ?_ | refine wq_getf (by assumption) rfl ?_ | refine wq_alen (by assumption) rfl ?_ | (refine wq_eq ⟨by omega, by omega⟩ ⟨by omega, by omega⟩ (fun _ => ?_) (fun _ => ?_) <;> try (exfalso; omega)) | (refine wq_ne ⟨by omega, by omega⟩ ⟨by omega, by omega⟩ (fun _ => ?_) (fun _ => ?_) <;> try (exfalso; omega)) | (refine wq_lt ⟨by omega, by omega⟩ ⟨by omega, by omega⟩ (fun _ => ?_) (fun _ => ?_) <;> try (exfalso; omega)) | (refine wq_ge ⟨by omega, by omega⟩ ⟨by omega, by omega⟩ (fun _ => ?_) (fun _ => ?_) <;> try (exfalso; omega)) | (refine wq_gt ⟨by omega, by omega⟩ ⟨by omega, by omega⟩ (fun _ => ?_) (fun _ => ?_) <;> try (exfalso; omega)) | (refine wq_le ⟨by omega, by omega⟩ ⟨by omega, by omega⟩ (fun _ => ?_) (fun _ => ?_) <;> try (exfalso; omega)) | (refine wq_ifeq ⟨by omega, by omega⟩ (fun _ => ?_) (fun _ => ?_) <;> try (exfalso; omega)) | (refine wq_ifne ⟨by omega, by omega⟩ (fun _ => ?_) (fun _ => ?_) <;> try (exfalso; omega)) | (refine wq_iflt ⟨by omega, by omega⟩ (fun _ => ?_) (fun _ => ?_) <;> try (exfalso; omega)) | (refine wq_ifge ⟨by omega, by omega⟩ (fun _ => ?_) (fun _ => ?_) <;> try (exfalso; omega)) | (refine wq_ifgt ⟨by omega, by omega⟩ (fun _ => ?_) (fun _ => ?_) <;> try (exfalso; omega)) | (refine wq_ifle ⟨by omega, by omega⟩ (fun _ => ?_) (fun _ => ?_) <;> try (exfalso; omega)) | refine wq_r rfl rfl rfl rfl rfl rfl ?_)
  · exact ⟨by rw [if_neg (by omega)], rfl⟩
  · exact ⟨by rw [if_neg (by omega)], rfl⟩
  · exact ⟨by rw [if_pos (by omega)], rfl⟩
theorem c_Row_at {M : PM} {a : Nat} {xs : List Int} {p : Int} (hp : inR p) (h : Rw M a xs) : Wm 67 [.ref a, .int (I p)] M (fun v M' => v = some (.int (I (rat xs p))) ∧ M' = M) := by
  have hc := c_Row_has hp h
  obtain ⟨hp1, hp2⟩ := hp
  obtain ⟨g, h1, h2, h3, h4⟩ := h
  refine wm_in (lv := _) rfl rfl rfl ?_
  repeat (refine wf rfl ?_; first | refine wq_iadd ?_ | refine wq_isub ?_ | refine wq_imul ?_ | refine wq_iinc rfl ?_ | refine wq_goto ?_ | refine wq_k rfl ?_ | refine wq_b rfl rfl ?_ | refine wq_getf (by assumption) rfl ?_ | refine wq_alen (by assumption) rfl ?_)
  refine wf rfl (wq_cv rfl rfl rfl h1 (hc.mono ?_))
  rintro v M' ⟨rfl, rfl⟩
  by_cases hin : 0 ≤ p ∧ p < xs.length
  · rw [if_pos hin]
    repeat' (refine wf rfl ?_; first | refine wq_iadd ?_ | refine wq_isub ?_ | refine wq_imul ?_ | refine wq_iinc rfl ?_ | refine wq_goto ?_ | refine wq_k rfl ?_ | refine wq_b rfl rfl ?_ | refine wq_getf (by assumption) rfl ?_ | refine wq_alen (by assumption) rfl ?_ | refine wq_iald h2 ⟨by omega, by omega⟩ (by omega) (by omega) ?_ | (refine wq_eq ⟨by omega, by omega⟩ ⟨by omega, by omega⟩ (fun _ => ?_) (fun _ => ?_) <;> try (exfalso; omega)) | (refine wq_ne ⟨by omega, by omega⟩ ⟨by omega, by omega⟩ (fun _ => ?_) (fun _ => ?_) <;> try (exfalso; omega)) | (refine wq_lt ⟨by omega, by omega⟩ ⟨by omega, by omega⟩ (fun _ => ?_) (fun _ => ?_) <;> try (exfalso; omega)) | (refine wq_ge ⟨by omega, by omega⟩ ⟨by omega, by omega⟩ (fun _ => ?_) (fun _ => ?_) <;> try (exfalso; omega)) | (refine wq_gt ⟨by omega, by omega⟩ ⟨by omega, by omega⟩ (fun _ => ?_) (fun _ => ?_) <;> try (exfalso; omega)) | (refine wq_le ⟨by omega, by omega⟩ ⟨by omega, by omega⟩ (fun _ => ?_) (fun _ => ?_) <;> try (exfalso; omega)) | (refine wq_ifeq ⟨by omega, by omega⟩ (fun _ => ?_) (fun _ => ?_) <;> try (exfalso; omega)) | (refine wq_ifne ⟨by omega, by omega⟩ (fun _ => ?_) (fun _ => ?_) <;> try (exfalso; omega)) | (refine wq_iflt ⟨by omega, by omega⟩ (fun _ => ?_) (fun _ => ?_) <;> try (exfalso; omega)) | (refine wq_ifge ⟨by omega, by omega⟩ (fun _ => ?_) (fun _ => ?_) <;> try (exfalso; omega)) | (refine wq_ifgt ⟨by omega, by omega⟩ (fun _ => ?_) (fun _ => ?_) <;> try (exfalso; omega)) | (refine wq_ifle ⟨by omega, by omega⟩ (fun _ => ?_) (fun _ => ?_) <;> try (exfalso; omega)) | refine wq_r rfl rfl rfl rfl rfl rfl ?_)
    refine ⟨?_, rfl⟩
    rw [rat_in hin.1 (h4 p.toNat (by omega))]
  · rw [if_neg hin]
    repeat' (refine wf rfl ?_; first | refine wq_iadd ?_ | refine wq_isub ?_ | refine wq_imul ?_ | refine wq_iinc rfl ?_ | refine wq_goto ?_ | refine wq_k rfl ?_ | refine wq_b rfl rfl ?_ | refine wq_getf (by assumption) rfl ?_ | refine wq_alen (by assumption) rfl ?_ | (refine wq_eq ⟨by omega, by omega⟩ ⟨by omega, by omega⟩ (fun _ => ?_) (fun _ => ?_) <;> try (exfalso; omega)) | (refine wq_ne ⟨by omega, by omega⟩ ⟨by omega, by omega⟩ (fun _ => ?_) (fun _ => ?_) <;> try (exfalso; omega)) | (refine wq_lt ⟨by omega, by omega⟩ ⟨by omega, by omega⟩ (fun _ => ?_) (fun _ => ?_) <;> try (exfalso; omega)) | (refine wq_ge ⟨by omega, by omega⟩ ⟨by omega, by omega⟩ (fun _ => ?_) (fun _ => ?_) <;> try (exfalso; omega)) | (refine wq_gt ⟨by omega, by omega⟩ ⟨by omega, by omega⟩ (fun _ => ?_) (fun _ => ?_) <;> try (exfalso; omega)) | (refine wq_le ⟨by omega, by omega⟩ ⟨by omega, by omega⟩ (fun _ => ?_) (fun _ => ?_) <;> try (exfalso; omega)) | (refine wq_ifeq ⟨by omega, by omega⟩ (fun _ => ?_) (fun _ => ?_) <;> try (exfalso; omega)) | (refine wq_ifne ⟨by omega, by omega⟩ (fun _ => ?_) (fun _ => ?_) <;> try (exfalso; omega)) | (refine wq_iflt ⟨by omega, by omega⟩ (fun _ => ?_) (fun _ => ?_) <;> try (exfalso; omega)) | (refine wq_ifge ⟨by omega, by omega⟩ (fun _ => ?_) (fun _ => ?_) <;> try (exfalso; omega)) | (refine wq_ifgt ⟨by omega, by omega⟩ (fun _ => ?_) (fun _ => ?_) <;> try (exfalso; omega)) | (refine wq_ifle ⟨by omega, by omega⟩ (fun _ => ?_) (fun _ => ?_) <;> try (exfalso; omega)) | refine wq_r rfl rfl rfl rfl rfl rfl ?_)
    refine ⟨?_, rfl⟩
    rw [rat_out (by omega)]
theorem Rw.put {M M' : PM} {a : Nat} {xs : List Int} {p s : Int} {g : Nat → Int} (h0 : 0 ≤ p) (h1 : M[a]? = some (.inr (6, [.ref (a + 1), .int (I xs.length)]))) (h3 : xs.length ≤ 80) (h4 : ∀ k, k < xs.length → xs[k]? = some (g k)) (hM : M'[a + 1]? = some (aJ 80 (upz g p.toNat s))) (f : Fr (fun q => q = a + 1) M M') : Rw M' a (rset xs p s) := by
  unfold rset
  rw [if_neg (by omega)]
  refine ⟨upz g p.toNat s, by rw [List.length_set]; exact f.at (by omega) h1, hM, by rw [List.length_set]; exact h3, ?_⟩
  intro k hk
  rw [List.length_set] at hk
  by_cases he : k = p.toNat
  · subst he
    rw [List.getElem?_set_self hk, upz_at]
  · rw [List.getElem?_set_ne (fun z => he z.symm), upz_ne _ _ he]
    exact h4 k hk
theorem c_Row_set {M : PM} {a : Nat} {xs : List Int} {p s : Int} (hp : inR p) (h : Rw M a xs) : Wm 68 [.ref a, .int (I p), .int (I s)] M (fun v M' => v = none ∧ Rw M' a (rset xs p s) ∧ Fr (fun q => q = a + 1) M M') := by
  have hc := c_Row_has hp h
  have h0 := h
  obtain ⟨hp1, hp2⟩ := hp
  obtain ⟨g, h1, h2, h3, h4⟩ := h
  refine wm_in (lv := _) rfl rfl rfl ?_
  repeat (refine wf rfl ?_; first | refine wq_iadd ?_ | refine wq_isub ?_ | refine wq_imul ?_ | refine wq_iinc rfl ?_ | refine wq_goto ?_ | refine wq_k rfl ?_ | refine wq_b rfl rfl ?_ | refine wq_getf (by assumption) rfl ?_ | refine wq_alen (by assumption) rfl ?_)
  refine wf rfl (wq_cv rfl rfl rfl h1 (hc.mono ?_))
  rintro v M' ⟨rfl, rfl⟩
  by_cases hin : 0 ≤ p ∧ p < xs.length
  · rw [if_pos hin]
    repeat' (refine wf rfl ?_; first | refine wq_iadd ?_ | refine wq_isub ?_ | refine wq_imul ?_ | refine wq_iinc rfl ?_ | refine wq_goto ?_ | refine wq_k rfl ?_ | refine wq_b rfl rfl ?_ | refine wq_getf (by assumption) rfl ?_ | refine wq_alen (by assumption) rfl ?_ | refine wq_iast h2 rfl ⟨by omega, by omega⟩ (by omega) (by omega) (fun M1 e1 f1 => ?_) | (refine wq_eq ⟨by omega, by omega⟩ ⟨by omega, by omega⟩ (fun _ => ?_) (fun _ => ?_) <;> try (exfalso; omega)) | (refine wq_ne ⟨by omega, by omega⟩ ⟨by omega, by omega⟩ (fun _ => ?_) (fun _ => ?_) <;> try (exfalso; omega)) | (refine wq_lt ⟨by omega, by omega⟩ ⟨by omega, by omega⟩ (fun _ => ?_) (fun _ => ?_) <;> try (exfalso; omega)) | (refine wq_ge ⟨by omega, by omega⟩ ⟨by omega, by omega⟩ (fun _ => ?_) (fun _ => ?_) <;> try (exfalso; omega)) | (refine wq_gt ⟨by omega, by omega⟩ ⟨by omega, by omega⟩ (fun _ => ?_) (fun _ => ?_) <;> try (exfalso; omega)) | (refine wq_le ⟨by omega, by omega⟩ ⟨by omega, by omega⟩ (fun _ => ?_) (fun _ => ?_) <;> try (exfalso; omega)) | (refine wq_ifeq ⟨by omega, by omega⟩ (fun _ => ?_) (fun _ => ?_) <;> try (exfalso; omega)) | (refine wq_ifne ⟨by omega, by omega⟩ (fun _ => ?_) (fun _ => ?_) <;> try (exfalso; omega)) | (refine wq_iflt ⟨by omega, by omega⟩ (fun _ => ?_) (fun _ => ?_) <;> try (exfalso; omega)) | (refine wq_ifge ⟨by omega, by omega⟩ (fun _ => ?_) (fun _ => ?_) <;> try (exfalso; omega)) | (refine wq_ifgt ⟨by omega, by omega⟩ (fun _ => ?_) (fun _ => ?_) <;> try (exfalso; omega)) | (refine wq_ifle ⟨by omega, by omega⟩ (fun _ => ?_) (fun _ => ?_) <;> try (exfalso; omega)) | refine wq_r rfl rfl rfl rfl rfl rfl ?_)
    exact ⟨rfl, Rw.put hin.1 h1 h3 h4 e1 f1, f1⟩
  · rw [if_neg hin]
    repeat' (refine wf rfl ?_; first | refine wq_iadd ?_ | refine wq_isub ?_ | refine wq_imul ?_ | refine wq_iinc rfl ?_ | refine wq_goto ?_ | refine wq_k rfl ?_ | refine wq_b rfl rfl ?_ | refine wq_getf (by assumption) rfl ?_ | refine wq_alen (by assumption) rfl ?_ | (refine wq_eq ⟨by omega, by omega⟩ ⟨by omega, by omega⟩ (fun _ => ?_) (fun _ => ?_) <;> try (exfalso; omega)) | (refine wq_ne ⟨by omega, by omega⟩ ⟨by omega, by omega⟩ (fun _ => ?_) (fun _ => ?_) <;> try (exfalso; omega)) | (refine wq_lt ⟨by omega, by omega⟩ ⟨by omega, by omega⟩ (fun _ => ?_) (fun _ => ?_) <;> try (exfalso; omega)) | (refine wq_ge ⟨by omega, by omega⟩ ⟨by omega, by omega⟩ (fun _ => ?_) (fun _ => ?_) <;> try (exfalso; omega)) | (refine wq_gt ⟨by omega, by omega⟩ ⟨by omega, by omega⟩ (fun _ => ?_) (fun _ => ?_) <;> try (exfalso; omega)) | (refine wq_le ⟨by omega, by omega⟩ ⟨by omega, by omega⟩ (fun _ => ?_) (fun _ => ?_) <;> try (exfalso; omega)) | (refine wq_ifeq ⟨by omega, by omega⟩ (fun _ => ?_) (fun _ => ?_) <;> try (exfalso; omega)) | (refine wq_ifne ⟨by omega, by omega⟩ (fun _ => ?_) (fun _ => ?_) <;> try (exfalso; omega)) | (refine wq_iflt ⟨by omega, by omega⟩ (fun _ => ?_) (fun _ => ?_) <;> try (exfalso; omega)) | (refine wq_ifge ⟨by omega, by omega⟩ (fun _ => ?_) (fun _ => ?_) <;> try (exfalso; omega)) | (refine wq_ifgt ⟨by omega, by omega⟩ (fun _ => ?_) (fun _ => ?_) <;> try (exfalso; omega)) | (refine wq_ifle ⟨by omega, by omega⟩ (fun _ => ?_) (fun _ => ?_) <;> try (exfalso; omega)) | refine wq_r rfl rfl rfl rfl rfl rfl ?_)
    refine ⟨rfl, ?_, Fr.rf⟩
    unfold rset
    split
    · exact h0
    · rw [List.set_eq_of_length_le (by omega)]
      exact h0
theorem c_Row_clear {M : PM} {a : Nat} {xs : List Int} (h : Rw M a xs) : Wm 69 [.ref a] M (fun v M' => v = none ∧ Rw M' a [] ∧ Fr (fun q => q = a) M M') := by
  obtain ⟨g, h1, h2, h3, h4⟩ := h
  refine wm_in (lv := _) rfl rfl rfl ?_
  repeat' (refine wf rfl ?_; first | refine wq_iadd ?_ | refine wq_isub ?_ | refine wq_imul ?_ | refine wq_iinc rfl ?_ | refine wq_goto ?_ | refine wq_k rfl ?_ | refine wq_b rfl rfl ?_ | refine wq_getf (by assumption) rfl ?_ | refine wq_alen (by assumption) rfl ?_ | refine wq_putf h1 rfl (fun M1 e1 f1 => ?_) | (refine wq_eq ⟨by omega, by omega⟩ ⟨by omega, by omega⟩ (fun _ => ?_) (fun _ => ?_) <;> try (exfalso; omega)) | (refine wq_ne ⟨by omega, by omega⟩ ⟨by omega, by omega⟩ (fun _ => ?_) (fun _ => ?_) <;> try (exfalso; omega)) | (refine wq_lt ⟨by omega, by omega⟩ ⟨by omega, by omega⟩ (fun _ => ?_) (fun _ => ?_) <;> try (exfalso; omega)) | (refine wq_ge ⟨by omega, by omega⟩ ⟨by omega, by omega⟩ (fun _ => ?_) (fun _ => ?_) <;> try (exfalso; omega)) | (refine wq_gt ⟨by omega, by omega⟩ ⟨by omega, by omega⟩ (fun _ => ?_) (fun _ => ?_) <;> try (exfalso; omega)) | (refine wq_le ⟨by omega, by omega⟩ ⟨by omega, by omega⟩ (fun _ => ?_) (fun _ => ?_) <;> try (exfalso; omega)) | (refine wq_ifeq ⟨by omega, by omega⟩ (fun _ => ?_) (fun _ => ?_) <;> try (exfalso; omega)) | (refine wq_ifne ⟨by omega, by omega⟩ (fun _ => ?_) (fun _ => ?_) <;> try (exfalso; omega)) | (refine wq_iflt ⟨by omega, by omega⟩ (fun _ => ?_) (fun _ => ?_) <;> try (exfalso; omega)) | (refine wq_ifge ⟨by omega, by omega⟩ (fun _ => ?_) (fun _ => ?_) <;> try (exfalso; omega)) | (refine wq_ifgt ⟨by omega, by omega⟩ (fun _ => ?_) (fun _ => ?_) <;> try (exfalso; omega)) | (refine wq_ifle ⟨by omega, by omega⟩ (fun _ => ?_) (fun _ => ?_) <;> try (exfalso; omega)) | refine wq_r rfl rfl rfl rfl rfl rfl ?_)
  exact ⟨rfl, ⟨g, e1, f1.at (by omega) h2, by simp, fun k hk => absurd hk (by simp)⟩, f1⟩
end
section
theorem cpz_in {f g : Nat → Int} {sp dp n k : Nat} (h1 : dp ≤ k) (h2 : k < dp + n) : cpz f g sp dp n k = f (sp + (k - dp)) := if_pos ⟨h1, h2⟩
theorem cpz_out {f g : Nat → Int} {sp dp n k : Nat} (h : k < dp ∨ dp + n ≤ k) : cpz f g sp dp n k = g k := if_neg (by omega)
theorem c_Row_copy {M : PM} {a b : Nat} {xs ys : List Int} (h : Rw M a xs) (h' : Rw M b ys) (hab : a ≠ b ∧ a + 1 ≠ b ∧ b + 1 ≠ a) : Wm 70 [.ref a, .ref b] M (fun v M' => v = none ∧ Rw M' a ys ∧ Fr (fun q => q = a ∨ q = a + 1) M M') := by
  obtain ⟨g, h1, h2, h3, h4⟩ := h
  obtain ⟨g', k1, k2, k3, k4⟩ := h'
  refine wm_in (lv := _) rfl rfl rfl ?_
  repeat (refine wf rfl ?_; first | refine wq_iadd ?_ | refine wq_isub ?_ | refine wq_imul ?_ | refine wq_iinc rfl ?_ | refine wq_goto ?_ | refine wq_k rfl ?_ | refine wq_b rfl rfl ?_ | refine wq_getf (by assumption) rfl ?_ | refine wq_alen (by assumption) rfl ?_)
  refine wf rfl (wq_putf h1 rfl (fun M1 e1 f1 => ?_))
  have h2a := f1.at (by omega) h2
  have k1a := f1.at (by omega) k1
  have k2a := f1.at (by omega) k2
  repeat (refine wf rfl ?_; first | refine wq_iadd ?_ | refine wq_isub ?_ | refine wq_imul ?_ | refine wq_iinc rfl ?_ | refine wq_goto ?_ | refine wq_k rfl ?_ | refine wq_b rfl rfl ?_ | refine wq_getf (by assumption) rfl ?_ | refine wq_alen (by assumption) rfl ?_)
  refine wf rfl (wq_acopy k2a h2a rfl rfl ⟨by omega, by omega⟩ ⟨by omega, by omega⟩ ⟨by omega, by omega⟩ (by omega) (by omega) (by omega) (by omega) (by omega) rfl (fun M2 e2 f2 => ?_))
  repeat' (refine wf rfl ?_; first | refine wq_iadd ?_ | refine wq_isub ?_ | refine wq_imul ?_ | refine wq_iinc rfl ?_ | refine wq_goto ?_ | refine wq_k rfl ?_ | refine wq_b rfl rfl ?_ | refine wq_getf (by assumption) rfl ?_ | refine wq_alen (by assumption) rfl ?_ | (refine wq_eq ⟨by omega, by omega⟩ ⟨by omega, by omega⟩ (fun _ => ?_) (fun _ => ?_) <;> try (exfalso; omega)) | (refine wq_ne ⟨by omega, by omega⟩ ⟨by omega, by omega⟩ (fun _ => ?_) (fun _ => ?_) <;> try (exfalso; omega)) | (refine wq_lt ⟨by omega, by omega⟩ ⟨by omega, by omega⟩ (fun _ => ?_) (fun _ => ?_) <;> try (exfalso; omega)) | (refine wq_ge ⟨by omega, by omega⟩ ⟨by omega, by omega⟩ (fun _ => ?_) (fun _ => ?_) <;> try (exfalso; omega)) | (refine wq_gt ⟨by omega, by omega⟩ ⟨by omega, by omega⟩ (fun _ => ?_) (fun _ => ?_) <;> try (exfalso; omega)) | (refine wq_le ⟨by omega, by omega⟩ ⟨by omega, by omega⟩ (fun _ => ?_) (fun _ => ?_) <;> try (exfalso; omega)) | (refine wq_ifeq ⟨by omega, by omega⟩ (fun _ => ?_) (fun _ => ?_) <;> try (exfalso; omega)) | (refine wq_ifne ⟨by omega, by omega⟩ (fun _ => ?_) (fun _ => ?_) <;> try (exfalso; omega)) | (refine wq_iflt ⟨by omega, by omega⟩ (fun _ => ?_) (fun _ => ?_) <;> try (exfalso; omega)) | (refine wq_ifge ⟨by omega, by omega⟩ (fun _ => ?_) (fun _ => ?_) <;> try (exfalso; omega)) | (refine wq_ifgt ⟨by omega, by omega⟩ (fun _ => ?_) (fun _ => ?_) <;> try (exfalso; omega)) | (refine wq_ifle ⟨by omega, by omega⟩ (fun _ => ?_) (fun _ => ?_) <;> try (exfalso; omega)) | refine wq_r rfl rfl rfl rfl rfl rfl ?_)
  refine ⟨rfl, ⟨_, f2.at (by omega) e1, e2, k3, fun k hk => ?_⟩, (f1.mono (fun q hq => Or.inl hq)).tr (f2.mono (fun q hq => Or.inr hq))⟩
  rw [cpz_in (by omega) (by omega), k4 k hk]
  congr 2
  omega
theorem c_Row_add {M : PM} {a : Nat} {xs : List Int} {s : Int} (h : Rw M a xs) : Wm 71 [.ref a, .int (I s)] M (fun v M' => (xs.length < 80 ∧ v = some (.int (I 1)) ∧ Rw M' a (xs ++ [s]) ∧ Fr (fun q => q = a ∨ q = a + 1) M M') ∨ (xs.length = 80 ∧ v = some (.int (I 0)) ∧ M' = M)) := by
  obtain ⟨g, h1, h2, h3, h4⟩ := h
  refine wm_in (lv := _) rfl rfl rfl ?_
  repeat' (refine wf rfl ?_; first | refine wq_iadd ?_ | refine wq_isub ?_ | refine wq_imul ?_ | refine wq_iinc rfl ?_ | refine wq_goto ?_ | refine wq_k rfl ?_ | refine wq_b rfl rfl ?_ | refine wq_getf (by assumption) rfl ?_ | refine wq_alen (by assumption) rfl ?_ | (refine wq_eq ⟨by omega, by omega⟩ ⟨by omega, by omega⟩ (fun _ => ?_) (fun _ => ?_) <;> try (exfalso; omega)) | (refine wq_ne ⟨by omega, by omega⟩ ⟨by omega, by omega⟩ (fun _ => ?_) (fun _ => ?_) <;> try (exfalso; omega)) | (refine wq_lt ⟨by omega, by omega⟩ ⟨by omega, by omega⟩ (fun _ => ?_) (fun _ => ?_) <;> try (exfalso; omega)) | (refine wq_ge ⟨by omega, by omega⟩ ⟨by omega, by omega⟩ (fun _ => ?_) (fun _ => ?_) <;> try (exfalso; omega)) | (refine wq_gt ⟨by omega, by omega⟩ ⟨by omega, by omega⟩ (fun _ => ?_) (fun _ => ?_) <;> try (exfalso; omega)) | (refine wq_le ⟨by omega, by omega⟩ ⟨by omega, by omega⟩ (fun _ => ?_) (fun _ => ?_) <;> try (exfalso; omega)) | (refine wq_ifeq ⟨by omega, by omega⟩ (fun _ => ?_) (fun _ => ?_) <;> try (exfalso; omega)) | (refine wq_ifne ⟨by omega, by omega⟩ (fun _ => ?_) (fun _ => ?_) <;> try (exfalso; omega)) | (refine wq_iflt ⟨by omega, by omega⟩ (fun _ => ?_) (fun _ => ?_) <;> try (exfalso; omega)) | (refine wq_ifge ⟨by omega, by omega⟩ (fun _ => ?_) (fun _ => ?_) <;> try (exfalso; omega)) | (refine wq_ifgt ⟨by omega, by omega⟩ (fun _ => ?_) (fun _ => ?_) <;> try (exfalso; omega)) | (refine wq_ifle ⟨by omega, by omega⟩ (fun _ => ?_) (fun _ => ?_) <;> try (exfalso; omega)) | refine wq_r rfl rfl rfl rfl rfl rfl ?_)
  · refine wf rfl (wq_iast h2 rfl ⟨by omega, by omega⟩ (by omega) (by omega) (fun M1 e1 f1 => ?_))
    have h1a := f1.at (by omega) h1
    repeat (refine wf rfl ?_; first | refine wq_iadd ?_ | refine wq_isub ?_ | refine wq_imul ?_ | refine wq_iinc rfl ?_ | refine wq_goto ?_ | refine wq_k rfl ?_ | refine wq_b rfl rfl ?_ | refine wq_getf (by assumption) rfl ?_ | refine wq_alen (by assumption) rfl ?_)
    refine wf rfl (wq_putf h1a rfl (fun M2 e2 f2 => ?_))
    repeat' (refine wf rfl ?_; first | refine wq_iadd ?_ | refine wq_isub ?_ | refine wq_imul ?_ | refine wq_iinc rfl ?_ | refine wq_goto ?_ | refine wq_k rfl ?_ | refine wq_b rfl rfl ?_ | refine wq_getf (by assumption) rfl ?_ | refine wq_alen (by assumption) rfl ?_ | (refine wq_eq ⟨by omega, by omega⟩ ⟨by omega, by omega⟩ (fun _ => ?_) (fun _ => ?_) <;> try (exfalso; omega)) | (refine wq_ne ⟨by omega, by omega⟩ ⟨by omega, by omega⟩ (fun _ => ?_) (fun _ => ?_) <;> try (exfalso; omega)) | (refine wq_lt ⟨by omega, by omega⟩ ⟨by omega, by omega⟩ (fun _ => ?_) (fun _ => ?_) <;> try (exfalso; omega)) | (refine wq_ge ⟨by omega, by omega⟩ ⟨by omega, by omega⟩ (fun _ => ?_) (fun _ => ?_) <;> try (exfalso; omega)) | (refine wq_gt ⟨by omega, by omega⟩ ⟨by omega, by omega⟩ (fun _ => ?_) (fun _ => ?_) <;> try (exfalso; omega)) | (refine wq_le ⟨by omega, by omega⟩ ⟨by omega, by omega⟩ (fun _ => ?_) (fun _ => ?_) <;> try (exfalso; omega)) | (refine wq_ifeq ⟨by omega, by omega⟩ (fun _ => ?_) (fun _ => ?_) <;> try (exfalso; omega)) | (refine wq_ifne ⟨by omega, by omega⟩ (fun _ => ?_) (fun _ => ?_) <;> try (exfalso; omega)) | (refine wq_iflt ⟨by omega, by omega⟩ (fun _ => ?_) (fun _ => ?_) <;> try (exfalso; omega)) | (refine wq_ifge ⟨by omega, by omega⟩ (fun _ => ?_) (fun _ => ?_) <;> try (exfalso; omega)) | (refine wq_ifgt ⟨by omega, by omega⟩ (fun _ => ?_) (fun _ => ?_) <;> try (exfalso; omega)) | (refine wq_ifle ⟨by omega, by omega⟩ (fun _ => ?_) (fun _ => ?_) <;> try (exfalso; omega)) | refine wq_r rfl rfl rfl rfl rfl rfl ?_)
    refine Or.inl ⟨by omega, rfl, ⟨_, ?_, f2.at (by omega) e1, ?_, fun k hk => ?_⟩, (f1.mono (fun q hq => Or.inr hq)).tr (f2.mono (fun q hq => Or.inl hq))⟩
    · rw [List.length_append]; exact e2
    · simp; omega
    · rw [List.length_append] at hk
      have hk : k < xs.length + 1 := hk
      by_cases he : k < xs.length
      · rw [List.getElem?_append_left he, upz_ne _ _ (by omega)]
        exact h4 k he
      · have he : k = xs.length := by omega
        subst he
        rw [List.getElem?_append_right (Nat.le_refl _), Nat.sub_self, show ((xs.length : Int)).toNat = xs.length by omega, upz_at]
        rfl
  · exact Or.inr ⟨by omega, rfl, rfl⟩
def rl (g : Nat → Int) (n : Nat) : List Int := (List.range n).map g
theorem rl_len (g : Nat → Int) (n : Nat) : (rl g n).length = n := by simp [rl]
theorem rl_at {g : Nat → Int} {n k : Nat} (h : k < n) : (rl g n)[k]? = some (g k) := by simp [rl, h]
theorem Rw.rl {M : PM} {a : Nat} {g : Nat → Int} {n : Nat} (h1 : M[a]? = some (.inr (6, [.ref (a + 1), .int (I n)]))) (h2 : M[a + 1]? = some (aJ 80 g)) (h3 : n ≤ 80) : Rw M a (rl g n) :=
  ⟨g, by rw [rl_len]; exact h1, h2, by rw [rl_len]; exact h3, fun k hk => rl_at (by rw [rl_len] at hk; exact hk)⟩
/-- moving what stands from p on by d -/
theorem c_Row_shift {M : PM} {a : Nat} {xs : List Int} {p d : Int} (hp : inR p) (hd : -100 ≤ d ∧ d ≤ 100) (h : Rw M a xs) : Wm 75 [.ref a, .int (I p), .int (I d)] M (fun v M' =>
    ((p < 0 ∨ (xs.length : Int) < p ∨ p + d < 0 ∨ 80 < xs.length + d) ∧ v = some (.int (I 0)) ∧ M' = M) ∨
    ((0 ≤ p ∧ p ≤ xs.length ∧ 0 ≤ p + d ∧ xs.length + d ≤ 80) ∧ v = some (.int (I 1)) ∧ Fr (fun q => q = a ∨ q = a + 1) M M' ∧
      ∃ ys, Rw M' a ys ∧ (ys.length : Int) = xs.length + d ∧ (∀ k : Nat, (k : Int) < p → (k : Int) < p + d → ys[k]? = xs[k]?) ∧ ∀ k : Nat, p ≤ k → k < xs.length → ys[(k + d).toNat]? = xs[k]?)) := by
  obtain ⟨hp1, hp2⟩ := hp
  obtain ⟨hd1, hd2⟩ := hd
  obtain ⟨g, h1, h2, h3, h4⟩ := h
  refine wm_in (lv := _) rfl rfl rfl ?_
  repeat' (refine wf rfl ?_; first | refine wq_iadd ?_ | refine wq_isub ?_ | refine wq_imul ?_ | refine wq_iinc rfl ?_ | refine wq_goto ?_ | refine wq_k rfl ?_ | refine wq_b rfl rfl ?_ | refine wq_getf (by assumption) rfl ?_ | refine wq_alen (by assumption) rfl ?_ | (refine wq_eq ⟨by omega, by omega⟩ ⟨by omega, by omega⟩ (fun _ => ?_) (fun _ => ?_) <;> try (exfalso; omega)) | (refine wq_ne ⟨by omega, by omega⟩ ⟨by omega, by omega⟩ (fun _ => ?_) (fun _ => ?_) <;> try (exfalso; omega)) | (refine wq_lt ⟨by omega, by omega⟩ ⟨by omega, by omega⟩ (fun _ => ?_) (fun _ => ?_) <;> try (exfalso; omega)) | (refine wq_ge ⟨by omega, by omega⟩ ⟨by omega, by omega⟩ (fun _ => ?_) (fun _ => ?_) <;> try (exfalso; omega)) | (refine wq_gt ⟨by omega, by omega⟩ ⟨by omega, by omega⟩ (fun _ => ?_) (fun _ => ?_) <;> try (exfalso; omega)) | (refine wq_le ⟨by omega, by omega⟩ ⟨by omega, by omega⟩ (fun _ => ?_) (fun _ => ?_) <;> try (exfalso; omega)) | (refine wq_ifeq ⟨by omega, by omega⟩ (fun _ => ?_) (fun _ => ?_) <;> try (exfalso; omega)) | (refine wq_ifne ⟨by omega, by omega⟩ (fun _ => ?_) (fun _ => ?_) <;> try (exfalso; omega)) | (refine wq_iflt ⟨by omega, by omega⟩ (fun _ => ?_) (fun _ => ?_) <;> try (exfalso; omega)) | (refine wq_ifge ⟨by omega, by omega⟩ (fun _ => ?_) (fun _ => ?_) <;> try (exfalso; omega)) | (refine wq_ifgt ⟨by omega, by omega⟩ (fun _ => ?_) (fun _ => ?_) <;> try (exfalso; omega)) | (refine wq_ifle ⟨by omega, by omega⟩ (fun _ => ?_) (fun _ => ?_) <;> try (exfalso; omega)) | refine wq_r rfl rfl rfl rfl rfl rfl ?_)
  · exact Or.inl ⟨by omega, rfl, rfl⟩
  · exact Or.inl ⟨by omega, rfl, rfl⟩
  · exact Or.inl ⟨by omega, rfl, rfl⟩
  · refine wf rfl (wq_acopy h2 h2 rfl rfl ⟨by omega, by omega⟩ ⟨by omega, by omega⟩ ⟨by omega, by omega⟩ (by omega) (by omega) (by omega) (by omega) (by omega) rfl (fun M1 e1 f1 => ?_))
    have h1a := f1.at (by omega) h1
    repeat (refine wf rfl ?_; first | refine wq_iadd ?_ | refine wq_isub ?_ | refine wq_imul ?_ | refine wq_iinc rfl ?_ | refine wq_goto ?_ | refine wq_k rfl ?_ | refine wq_b rfl rfl ?_ | refine wq_getf (by assumption) rfl ?_ | refine wq_alen (by assumption) rfl ?_)
    refine wf rfl (wq_putf h1a rfl (fun M2 e2 f2 => ?_))
    repeat' (refine wf rfl ?_; first | refine wq_iadd ?_ | refine wq_isub ?_ | refine wq_imul ?_ | refine wq_iinc rfl ?_ | refine wq_goto ?_ | refine wq_k rfl ?_ | refine wq_b rfl rfl ?_ | refine wq_getf (by assumption) rfl ?_ | refine wq_alen (by assumption) rfl ?_ | (refine wq_eq ⟨by omega, by omega⟩ ⟨by omega, by omega⟩ (fun _ => ?_) (fun _ => ?_) <;> try (exfalso; omega)) | (refine wq_ne ⟨by omega, by omega⟩ ⟨by omega, by omega⟩ (fun _ => ?_) (fun _ => ?_) <;> try (exfalso; omega)) | (refine wq_lt ⟨by omega, by omega⟩ ⟨by omega, by omega⟩ (fun _ => ?_) (fun _ => ?_) <;> try (exfalso; omega)) | (refine wq_ge ⟨by omega, by omega⟩ ⟨by omega, by omega⟩ (fun _ => ?_) (fun _ => ?_) <;> try (exfalso; omega)) | (refine wq_gt ⟨by omega, by omega⟩ ⟨by omega, by omega⟩ (fun _ => ?_) (fun _ => ?_) <;> try (exfalso; omega)) | (refine wq_le ⟨by omega, by omega⟩ ⟨by omega, by omega⟩ (fun _ => ?_) (fun _ => ?_) <;> try (exfalso; omega)) | (refine wq_ifeq ⟨by omega, by omega⟩ (fun _ => ?_) (fun _ => ?_) <;> try (exfalso; omega)) | (refine wq_ifne ⟨by omega, by omega⟩ (fun _ => ?_) (fun _ => ?_) <;> try (exfalso; omega)) | (refine wq_iflt ⟨by omega, by omega⟩ (fun _ => ?_) (fun _ => ?_) <;> try (exfalso; omega)) | (refine wq_ifge ⟨by omega, by omega⟩ (fun _ => ?_) (fun _ => ?_) <;> try (exfalso; omega)) | (refine wq_ifgt ⟨by omega, by omega⟩ (fun _ => ?_) (fun _ => ?_) <;> try (exfalso; omega)) | (refine wq_ifle ⟨by omega, by omega⟩ (fun _ => ?_) (fun _ => ?_) <;> try (exfalso; omega)) | refine wq_r rfl rfl rfl rfl rfl rfl ?_)
    have hn : ((((xs.length : Int) + d).toNat : Nat) : Int) = (xs.length : Int) + d := by omega
    have e2 : M2[a]? = some (.inr (6, [.ref (a + 1), .int (I (((xs.length : Int) + d).toNat : Nat))])) := by rw [hn]; exact e2
    refine Or.inr ⟨by omega, rfl, (f1.mono (fun q hq => Or.inr hq)).tr (f2.mono (fun q hq => Or.inl hq)), _, Rw.rl e2 (f2.at (by omega) e1) (by omega), by rw [rl_len]; exact hn, fun k q1 q2 => ?_, fun k q1 q2 => ?_⟩
    · rw [rl_at (by omega), cpz_out (by omega), h4 k (by omega)]
    · rw [rl_at (by omega), cpz_in (by omega) (by omega), h4 k q2]
      congr 2
      omega
  · exact Or.inl ⟨by omega, rfl, rfl⟩
theorem c_Row_putIn {M : PM} {a : Nat} {xs : List Int} {p s : Int} (hp : inR p) (h : Rw M a xs) : Wm 72 [.ref a, .int (I p), .int (I s)] M (fun v M' =>
    ((p < 0 ∨ (xs.length : Int) < p ∨ xs.length = 80) ∧ v = some (.int (I 0)) ∧ M' = M) ∨
    ((0 ≤ p ∧ p ≤ xs.length ∧ xs.length < 80) ∧ v = some (.int (I 1)) ∧ Fr (fun q => q = a ∨ q = a + 1) M M' ∧ Rw M' a (xs.take p.toNat ++ s :: xs.drop p.toNat))) := by
  have hc := c_Row_shift (d := 1) hp (by omega) h
  have hl := h.len
  obtain ⟨g, h1, h2, h3, h4⟩ := id h
  refine wm_in (lv := _) rfl rfl rfl ?_
  repeat (refine wf rfl ?_; first | refine wq_iadd ?_ | refine wq_isub ?_ | refine wq_imul ?_ | refine wq_iinc rfl ?_ | refine wq_goto ?_ | refine wq_k rfl ?_ | refine wq_b rfl rfl ?_ | refine wq_getf (by assumption) rfl ?_ | refine wq_alen (by assumption) rfl ?_)
  refine wf rfl (wq_cv rfl rfl rfl h1 (hc.mono ?_))
  rintro v M1 (⟨q, rfl, rfl⟩ | ⟨q, rfl, f1, ys, hy, q2, q3, q4⟩)
  · repeat' (refine wf rfl ?_; first | refine wq_iadd ?_ | refine wq_isub ?_ | refine wq_imul ?_ | refine wq_iinc rfl ?_ | refine wq_goto ?_ | refine wq_k rfl ?_ | refine wq_b rfl rfl ?_ | refine wq_getf (by assumption) rfl ?_ | refine wq_alen (by assumption) rfl ?_ | (refine wq_eq ⟨by omega, by omega⟩ ⟨by omega, by omega⟩ (fun _ => ?_) (fun _ => ?_) <;> try (exfalso; omega)) | (refine wq_ne ⟨by omega, by omega⟩ ⟨by omega, by omega⟩ (fun _ => ?_) (fun _ => ?_) <;> try (exfalso; omega)) | (refine wq_lt ⟨by omega, by omega⟩ ⟨by omega, by omega⟩ (fun _ => ?_) (fun _ => ?_) <;> try (exfalso; omega)) | (refine wq_ge ⟨by omega, by omega⟩ ⟨by omega, by omega⟩ (fun _ => ?_) (fun _ => ?_) <;> try (exfalso; omega)) | (refine wq_gt ⟨by omega, by omega⟩ ⟨by omega, by omega⟩ (fun _ => ?_) (fun _ => ?_) <;> try (exfalso; omega)) | (refine wq_le ⟨by omega, by omega⟩ ⟨by omega, by omega⟩ (fun _ => ?_) (fun _ => ?_) <;> try (exfalso; omega)) | (refine wq_ifeq ⟨by omega, by omega⟩ (fun _ => ?_) (fun _ => ?_) <;> try (exfalso; omega)) | (refine wq_ifne ⟨by omega, by omega⟩ (fun _ => ?_) (fun _ => ?_) <;> try (exfalso; omega)) | (refine wq_iflt ⟨by omega, by omega⟩ (fun _ => ?_) (fun _ => ?_) <;> try (exfalso; omega)) | (refine wq_ifge ⟨by omega, by omega⟩ (fun _ => ?_) (fun _ => ?_) <;> try (exfalso; omega)) | (refine wq_ifgt ⟨by omega, by omega⟩ (fun _ => ?_) (fun _ => ?_) <;> try (exfalso; omega)) | (refine wq_ifle ⟨by omega, by omega⟩ (fun _ => ?_) (fun _ => ?_) <;> try (exfalso; omega)) | refine wq_r rfl rfl rfl rfl rfl rfl ?_)
    exact Or.inl ⟨by omega, rfl, rfl⟩
  · have hs := c_Row_set (s := s) hp hy
    obtain ⟨g', k1, k2, k3, k4⟩ := id hy
    repeat' (refine wf rfl ?_; first | refine wq_iadd ?_ | refine wq_isub ?_ | refine wq_imul ?_ | refine wq_iinc rfl ?_ | refine wq_goto ?_ | refine wq_k rfl ?_ | refine wq_b rfl rfl ?_ | refine wq_getf (by assumption) rfl ?_ | refine wq_alen (by assumption) rfl ?_ | (refine wq_eq ⟨by omega, by omega⟩ ⟨by omega, by omega⟩ (fun _ => ?_) (fun _ => ?_) <;> try (exfalso; omega)) | (refine wq_ne ⟨by omega, by omega⟩ ⟨by omega, by omega⟩ (fun _ => ?_) (fun _ => ?_) <;> try (exfalso; omega)) | (refine wq_lt ⟨by omega, by omega⟩ ⟨by omega, by omega⟩ (fun _ => ?_) (fun _ => ?_) <;> try (exfalso; omega)) | (refine wq_ge ⟨by omega, by omega⟩ ⟨by omega, by omega⟩ (fun _ => ?_) (fun _ => ?_) <;> try (exfalso; omega)) | (refine wq_gt ⟨by omega, by omega⟩ ⟨by omega, by omega⟩ (fun _ => ?_) (fun _ => ?_) <;> try (exfalso; omega)) | (refine wq_le ⟨by omega, by omega⟩ ⟨by omega, by omega⟩ (fun _ => ?_) (fun _ => ?_) <;> try (exfalso; omega)) | (refine wq_ifeq ⟨by omega, by omega⟩ (fun _ => ?_) (fun _ => ?_) <;> try (exfalso; omega)) | (refine wq_ifne ⟨by omega, by omega⟩ (fun _ => ?_) (fun _ => ?_) <;> try (exfalso; omega)) | (refine wq_iflt ⟨by omega, by omega⟩ (fun _ => ?_) (fun _ => ?_) <;> try (exfalso; omega)) | (refine wq_ifge ⟨by omega, by omega⟩ (fun _ => ?_) (fun _ => ?_) <;> try (exfalso; omega)) | (refine wq_ifgt ⟨by omega, by omega⟩ (fun _ => ?_) (fun _ => ?_) <;> try (exfalso; omega)) | (refine wq_ifle ⟨by omega, by omega⟩ (fun _ => ?_) (fun _ => ?_) <;> try (exfalso; omega)) | refine wq_r rfl rfl rfl rfl rfl rfl ?_)
    refine wf rfl (wq_cv rfl rfl rfl k1 (hs.mono ?_))
    rintro v M2 ⟨rfl, hr, f2⟩
    repeat' (refine wf rfl ?_; first | refine wq_iadd ?_ | refine wq_isub ?_ | refine wq_imul ?_ | refine wq_iinc rfl ?_ | refine wq_goto ?_ | refine wq_k rfl ?_ | refine wq_b rfl rfl ?_ | refine wq_getf (by assumption) rfl ?_ | refine wq_alen (by assumption) rfl ?_ | (refine wq_eq ⟨by omega, by omega⟩ ⟨by omega, by omega⟩ (fun _ => ?_) (fun _ => ?_) <;> try (exfalso; omega)) | (refine wq_ne ⟨by omega, by omega⟩ ⟨by omega, by omega⟩ (fun _ => ?_) (fun _ => ?_) <;> try (exfalso; omega)) | (refine wq_lt ⟨by omega, by omega⟩ ⟨by omega, by omega⟩ (fun _ => ?_) (fun _ => ?_) <;> try (exfalso; omega)) | (refine wq_ge ⟨by omega, by omega⟩ ⟨by omega, by omega⟩ (fun _ => ?_) (fun _ => ?_) <;> try (exfalso; omega)) | (refine wq_gt ⟨by omega, by omega⟩ ⟨by omega, by omega⟩ (fun _ => ?_) (fun _ => ?_) <;> try (exfalso; omega)) | (refine wq_le ⟨by omega, by omega⟩ ⟨by omega, by omega⟩ (fun _ => ?_) (fun _ => ?_) <;> try (exfalso; omega)) | (refine wq_ifeq ⟨by omega, by omega⟩ (fun _ => ?_) (fun _ => ?_) <;> try (exfalso; omega)) | (refine wq_ifne ⟨by omega, by omega⟩ (fun _ => ?_) (fun _ => ?_) <;> try (exfalso; omega)) | (refine wq_iflt ⟨by omega, by omega⟩ (fun _ => ?_) (fun _ => ?_) <;> try (exfalso; omega)) | (refine wq_ifge ⟨by omega, by omega⟩ (fun _ => ?_) (fun _ => ?_) <;> try (exfalso; omega)) | (refine wq_ifgt ⟨by omega, by omega⟩ (fun _ => ?_) (fun _ => ?_) <;> try (exfalso; omega)) | (refine wq_ifle ⟨by omega, by omega⟩ (fun _ => ?_) (fun _ => ?_) <;> try (exfalso; omega)) | refine wq_r rfl rfl rfl rfl rfl rfl ?_)
    refine Or.inr ⟨by omega, rfl, f1.tr (f2.mono (fun q hq => Or.inr hq)), ?_⟩
    have e : xs.take p.toNat ++ s :: xs.drop p.toNat = rset ys p s := by
      unfold rset
      rw [if_neg (by omega)]
      apply List.ext_getElem?
      intro k
      rcases Nat.lt_trichotomy k p.toNat with hk | hk | hk
      · rw [List.getElem?_append_left (by rw [List.length_take]; omega), List.getElem?_take_of_lt hk, List.getElem?_set_ne (by omega), q3 k (by omega) (by omega)]
      · subst hk
        rw [List.getElem?_append_right (by rw [List.length_take]; omega), List.length_take, show p.toNat - min p.toNat xs.length = 0 by omega, List.getElem?_set_self (by omega)]
        rfl
      · rw [List.getElem?_append_right (by rw [List.length_take]; omega), List.length_take, List.getElem?_set_ne (by omega)]
        rw [show k - min p.toNat xs.length = (k - 1 - p.toNat) + 1 by omega, List.getElem?_cons_succ, List.getElem?_drop, show p.toNat + (k - 1 - p.toNat) = k - 1 by omega]
        by_cases hk2 : k - 1 < xs.length
        · have := q4 (k - 1) (by omega) hk2
          rw [← this]
          congr 1
          omega
        · rw [List.getElem?_eq_none (by omega), List.getElem?_eq_none (by omega)]
    rw [e]
    exact hr
theorem c_Row_takeOut {M : PM} {a : Nat} {xs : List Int} {p : Int} (hp : 0 ≤ p ∧ p < xs.length) (h : Rw M a xs) : Wm 73 [.ref a, .int (I p)] M (fun v M' => v = none ∧ Fr (fun q => q = a ∨ q = a + 1) M M' ∧ Rw M' a (xs.take p.toNat ++ xs.drop (p.toNat + 1))) := by
  have hl := h.len
  have hc := c_Row_shift (p := p + 1) (d := -1) ⟨by omega, by omega⟩ (by omega) h
  obtain ⟨g, h1, h2, h3, h4⟩ := id h
  refine wm_in (lv := _) rfl rfl rfl ?_
  repeat (refine wf rfl ?_; first | refine wq_iadd ?_ | refine wq_isub ?_ | refine wq_imul ?_ | refine wq_iinc rfl ?_ | refine wq_goto ?_ | refine wq_k rfl ?_ | refine wq_b rfl rfl ?_ | refine wq_getf (by assumption) rfl ?_ | refine wq_alen (by assumption) rfl ?_)
  refine wf rfl (wq_cv rfl rfl rfl h1 (hc.mono ?_))
  rintro v M1 (⟨q, rfl, rfl⟩ | ⟨q, rfl, f1, ys, hy, q2, q3, q4⟩)
  · omega
  · repeat' (refine wf rfl ?_; first | refine wq_iadd ?_ | refine wq_isub ?_ | refine wq_imul ?_ | refine wq_iinc rfl ?_ | refine wq_goto ?_ | refine wq_k rfl ?_ | refine wq_b rfl rfl ?_ | refine wq_getf (by assumption) rfl ?_ | refine wq_alen (by assumption) rfl ?_ | (refine wq_eq ⟨by omega, by omega⟩ ⟨by omega, by omega⟩ (fun _ => ?_) (fun _ => ?_) <;> try (exfalso; omega)) | (refine wq_ne ⟨by omega, by omega⟩ ⟨by omega, by omega⟩ (fun _ => ?_) (fun _ => ?_) <;> try (exfalso; omega)) | (refine wq_lt ⟨by omega, by omega⟩ ⟨by omega, by omega⟩ (fun _ => ?_) (fun _ => ?_) <;> try (exfalso; omega)) | (refine wq_ge ⟨by omega, by omega⟩ ⟨by omega, by omega⟩ (fun _ => ?_) (fun _ => ?_) <;> try (exfalso; omega)) | (refine wq_gt ⟨by omega, by omega⟩ ⟨by omega, by omega⟩ (fun _ => ?_) (fun _ => ?_) <;> try (exfalso; omega)) | (refine wq_le ⟨by omega, by omega⟩ ⟨by omega, by omega⟩ (fun _ => ?_) (fun _ => ?_) <;> try (exfalso; omega)) | (refine wq_ifeq ⟨by omega, by omega⟩ (fun _ => ?_) (fun _ => ?_) <;> try (exfalso; omega)) | (refine wq_ifne ⟨by omega, by omega⟩ (fun _ => ?_) (fun _ => ?_) <;> try (exfalso; omega)) | (refine wq_iflt ⟨by omega, by omega⟩ (fun _ => ?_) (fun _ => ?_) <;> try (exfalso; omega)) | (refine wq_ifge ⟨by omega, by omega⟩ (fun _ => ?_) (fun _ => ?_) <;> try (exfalso; omega)) | (refine wq_ifgt ⟨by omega, by omega⟩ (fun _ => ?_) (fun _ => ?_) <;> try (exfalso; omega)) | (refine wq_ifle ⟨by omega, by omega⟩ (fun _ => ?_) (fun _ => ?_) <;> try (exfalso; omega)) | refine wq_r rfl rfl rfl rfl rfl rfl ?_)
    refine ⟨rfl, f1, ?_⟩
    have e : xs.take p.toNat ++ xs.drop (p.toNat + 1) = ys := by
      apply List.ext_getElem?
      intro k
      by_cases hk : k < p.toNat
      · rw [List.getElem?_append_left (by rw [List.length_take]; omega), List.getElem?_take_of_lt hk, q3 k (by omega) (by omega)]
      · rw [List.getElem?_append_right (by rw [List.length_take]; omega), List.length_take, List.getElem?_drop]
        rw [show p.toNat + 1 + (k - min p.toNat xs.length) = k + 1 by omega]
        by_cases hk2 : k + 1 < xs.length
        · have := q4 (k + 1) (by omega) hk2
          rw [← this]
          congr 1
          omega
        · rw [List.getElem?_eq_none (by omega), List.getElem?_eq_none (by omega)]
    rw [e]
    exact hy
end
section
/-- symbols -/
def SB (xs : List Int) : Prop := ∀ x ∈ xs, 0 ≤ x ∧ x < 34
theorem rat_bd {xs : List Int} (h : SB xs) (p : Int) : -6 ≤ rat xs p ∧ rat xs p < 34 := by
  by_cases hp : p < 0 ∨ (xs.length : Int) ≤ p
  · rw [rat_out hp]; omega
  · have hg := List.getElem?_eq_getElem (l := xs) (i := p.toNat) (by omega)
    rw [rat_in (by omega) hg]
    have := h _ (List.getElem_mem (l := xs) (n := p.toNat) (by omega))
    omega
def pr (xs : List Int) (p f s : Int) : Prop := 0 ≤ p + 1 ∧ p + 1 < xs.length ∧ rat xs p = f ∧ rat xs (p + 1) = s
theorem c_Row_hasPair {M : PM} {a : Nat} {xs : List Int} {p f s : Int} (hp : 0 ≤ p ∧ p ≤ 80) (hf : inR f) (hs : inR s) (hb : SB xs) (h : Rw M a xs) : Wm 76 [.ref a, .int (I p), .int (I f), .int (I s)] M (fun v M' => (∃ b : Int, v = some (.int (I b)) ∧ ((pr xs p f s ∧ b = 1) ∨ (¬ pr xs p f s ∧ b = 0))) ∧ M' = M) := by
  have hl := h.len
  obtain ⟨hf1, hf2⟩ := hf
  obtain ⟨hs1, hs2⟩ := hs
  have hc := c_Row_has (p := p + 1) ⟨by omega, by omega⟩ h
  have hc1 := c_Row_at (p := p) ⟨by omega, by omega⟩ h
  have hc2 := c_Row_at (p := p + 1) ⟨by omega, by omega⟩ h
  have b1 := rat_bd hb p
  have b2 := rat_bd hb (p + 1)
  obtain ⟨g, h1, h2, h3, h4⟩ := h
  refine wm_in (lv := _) rfl rfl rfl ?_
  repeat (refine wf rfl ?_; first | refine wq_iadd ?_ | refine wq_isub ?_ | refine wq_imul ?_ | refine wq_iinc rfl ?_ | refine wq_goto ?_ | refine wq_k rfl ?_ | refine wq_b rfl rfl ?_ | refine wq_getf (by assumption) rfl ?_ | refine wq_alen (by assumption) rfl ?_)
  refine wf rfl (wq_cv rfl rfl rfl h1 (hc.mono ?_))
  rintro v M' ⟨rfl, rfl⟩
  by_cases hin : 0 ≤ p + 1 ∧ p + 1 < xs.length
  · rw [if_pos hin]
    repeat' (refine wf rfl ?_; first | refine wq_iadd ?_ | refine wq_isub ?_ | refine wq_imul ?_ | refine wq_iinc rfl ?_ | refine wq_goto ?_ | refine wq_k rfl ?_ | refine wq_b rfl rfl ?_ | refine wq_getf (by assumption) rfl ?_ | refine wq_alen (by assumption) rfl ?_ | (refine wq_eq ⟨by omega, by omega⟩ ⟨by omega, by omega⟩ (fun _ => ?_) (fun _ => ?_) <;> try (exfalso; omega)) | (refine wq_ne ⟨by omega, by omega⟩ ⟨by omega, by omega⟩ (fun _ => ?_) (fun _ => ?_) <;> try (exfalso; omega)) | (refine wq_lt ⟨by omega, by omega⟩ ⟨by omega, by omega⟩ (fun _ => ?_) (fun _ => ?_) <;> try (exfalso; omega)) | (refine wq_ge ⟨by omega, by omega⟩ ⟨by omega, by omega⟩ (fun _ => ?_) (fun _ => ?_) <;> try (exfalso; omega)) | (refine wq_gt ⟨by omega, by omega⟩ ⟨by omega, by omega⟩ (fun _ => ?_) (fun _ => ?_) <;> try (exfalso; omega)) | (refine wq_le ⟨by omega, by omega⟩ ⟨by omega, by omega⟩ (fun _ => ?_) (fun _ => ?_) <;> try (exfalso; omega)) | (refine wq_ifeq ⟨by omega, by omega⟩ (fun _ => ?_) (fun _ => ?_) <;> try (exfalso; omega)) | (refine wq_ifne ⟨by omega, by omega⟩ (fun _ => ?_) (fun _ => ?_) <;> try (exfalso; omega)) | (refine wq_iflt ⟨by omega, by omega⟩ (fun _ => ?_) (fun _ => ?_) <;> try (exfalso; omega)) | (refine wq_ifge ⟨by omega, by omega⟩ (fun _ => ?_) (fun _ => ?_) <;> try (exfalso; omega)) | (refine wq_ifgt ⟨by omega, by omega⟩ (fun _ => ?_) (fun _ => ?_) <;> try (exfalso; omega)) | (refine wq_ifle ⟨by omega, by omega⟩ (fun _ => ?_) (fun _ => ?_) <;> try (exfalso; omega)) | refine wq_r rfl rfl rfl rfl rfl rfl ?_)
    refine wf rfl (wq_cv rfl rfl rfl h1 (hc1.mono ?_))
    rintro v M' ⟨rfl, rfl⟩
    repeat' (refine wf rfl ?_; first | refine wq_iadd ?_ | refine wq_isub ?_ | refine wq_imul ?_ | refine wq_iinc rfl ?_ | refine wq_goto ?_ | refine wq_k rfl ?_ | refine wq_b rfl rfl ?_ | refine wq_getf (by assumption) rfl ?_ | refine wq_alen (by assumption) rfl ?_ | (refine wq_eq ⟨by omega, by omega⟩ ⟨by omega, by omega⟩ (fun _ => ?_) (fun _ => ?_) <;> try (exfalso; omega)) | (refine wq_ne ⟨by omega, by omega⟩ ⟨by omega, by omega⟩ (fun _ => ?_) (fun _ => ?_) <;> try (exfalso; omega)) | (refine wq_lt ⟨by omega, by omega⟩ ⟨by omega, by omega⟩ (fun _ => ?_) (fun _ => ?_) <;> try (exfalso; omega)) | (refine wq_ge ⟨by omega, by omega⟩ ⟨by omega, by omega⟩ (fun _ => ?_) (fun _ => ?_) <;> try (exfalso; omega)) | (refine wq_gt ⟨by omega, by omega⟩ ⟨by omega, by omega⟩ (fun _ => ?_) (fun _ => ?_) <;> try (exfalso; omega)) | (refine wq_le ⟨by omega, by omega⟩ ⟨by omega, by omega⟩ (fun _ => ?_) (fun _ => ?_) <;> try (exfalso; omega)) | (refine wq_ifeq ⟨by omega, by omega⟩ (fun _ => ?_) (fun _ => ?_) <;> try (exfalso; omega)) | (refine wq_ifne ⟨by omega, by omega⟩ (fun _ => ?_) (fun _ => ?_) <;> try (exfalso; omega)) | (refine wq_iflt ⟨by omega, by omega⟩ (fun _ => ?_) (fun _ => ?_) <;> try (exfalso; omega)) | (refine wq_ifge ⟨by omega, by omega⟩ (fun _ => ?_) (fun _ => ?_) <;> try (exfalso; omega)) | (refine wq_ifgt ⟨by omega, by omega⟩ (fun _ => ?_) (fun _ => ?_) <;> try (exfalso; omega)) | (refine wq_ifle ⟨by omega, by omega⟩ (fun _ => ?_) (fun _ => ?_) <;> try (exfalso; omega)) | refine wq_r rfl rfl rfl rfl rfl rfl ?_)
    · exact ⟨⟨_, rfl, Or.inr ⟨fun z => by unfold pr at z; omega, rfl⟩⟩, rfl⟩
    · refine wf rfl (wq_cv rfl rfl rfl h1 (hc2.mono ?_))
      rintro v M' ⟨rfl, rfl⟩
      repeat' (refine wf rfl ?_; first | refine wq_iadd ?_ | refine wq_isub ?_ | refine wq_imul ?_ | refine wq_iinc rfl ?_ | refine wq_goto ?_ | refine wq_k rfl ?_ | refine wq_b rfl rfl ?_ | refine wq_getf (by assumption) rfl ?_ | refine wq_alen (by assumption) rfl ?_ | (refine wq_eq ⟨by omega, by omega⟩ ⟨by omega, by omega⟩ (fun _ => ?_) (fun _ => ?_) <;> try (exfalso; omega)) | (refine wq_ne ⟨by omega, by omega⟩ ⟨by omega, by omega⟩ (fun _ => ?_) (fun _ => ?_) <;> try (exfalso; omega)) | (refine wq_lt ⟨by omega, by omega⟩ ⟨by omega, by omega⟩ (fun _ => ?_) (fun _ => ?_) <;> try (exfalso; omega)) | (refine wq_ge ⟨by omega, by omega⟩ ⟨by omega, by omega⟩ (fun _ => ?_) (fun _ => ?_) <;> try (exfalso; omega)) | (refine wq_gt ⟨by omega, by omega⟩ ⟨by omega, by omega⟩ (fun _ => ?_) (fun _ => ?_) <;> try (exfalso; omega)) | (refine wq_le ⟨by omega, by omega⟩ ⟨by omega, by omega⟩ (fun _ => ?_) (fun _ => ?_) <;> try (exfalso; omega)) | (refine wq_ifeq ⟨by omega, by omega⟩ (fun _ => ?_) (fun _ => ?_) <;> try (exfalso; omega)) | (refine wq_ifne ⟨by omega, by omega⟩ (fun _ => ?_) (fun _ => ?_) <;> try (exfalso; omega)) | (refine wq_iflt ⟨by omega, by omega⟩ (fun _ => ?_) (fun _ => ?_) <;> try (exfalso; omega)) | (refine wq_ifge ⟨by omega, by omega⟩ (fun _ => ?_) (fun _ => ?_) <;> try (exfalso; omega)) | (refine wq_ifgt ⟨by omega, by omega⟩ (fun _ => ?_) (fun _ => ?_) <;> try (exfalso; omega)) | (refine wq_ifle ⟨by omega, by omega⟩ (fun _ => ?_) (fun _ => ?_) <;> try (exfalso; omega)) | refine wq_r rfl rfl rfl rfl rfl rfl ?_)
      · exact ⟨⟨_, rfl, Or.inr ⟨fun z => by unfold pr at z; omega, rfl⟩⟩, rfl⟩
      · exact ⟨⟨_, rfl, Or.inl ⟨by unfold pr; omega, rfl⟩⟩, rfl⟩
  · rw [if_neg hin]
    repeat' (refine wf rfl ?_; first | refine wq_iadd ?_ | refine wq_isub ?_ | refine wq_imul ?_ | refine wq_iinc rfl ?_ | refine wq_goto ?_ | refine wq_k rfl ?_ | refine wq_b rfl rfl ?_ | refine wq_getf (by assumption) rfl ?_ | refine wq_alen (by assumption) rfl ?_ | (refine wq_eq ⟨by omega, by omega⟩ ⟨by omega, by omega⟩ (fun _ => ?_) (fun _ => ?_) <;> try (exfalso; omega)) | (refine wq_ne ⟨by omega, by omega⟩ ⟨by omega, by omega⟩ (fun _ => ?_) (fun _ => ?_) <;> try (exfalso; omega)) | (refine wq_lt ⟨by omega, by omega⟩ ⟨by omega, by omega⟩ (fun _ => ?_) (fun _ => ?_) <;> try (exfalso; omega)) | (refine wq_ge ⟨by omega, by omega⟩ ⟨by omega, by omega⟩ (fun _ => ?_) (fun _ => ?_) <;> try (exfalso; omega)) | (refine wq_gt ⟨by omega, by omega⟩ ⟨by omega, by omega⟩ (fun _ => ?_) (fun _ => ?_) <;> try (exfalso; omega)) | (refine wq_le ⟨by omega, by omega⟩ ⟨by omega, by omega⟩ (fun _ => ?_) (fun _ => ?_) <;> try (exfalso; omega)) | (refine wq_ifeq ⟨by omega, by omega⟩ (fun _ => ?_) (fun _ => ?_) <;> try (exfalso; omega)) | (refine wq_ifne ⟨by omega, by omega⟩ (fun _ => ?_) (fun _ => ?_) <;> try (exfalso; omega)) | (refine wq_iflt ⟨by omega, by omega⟩ (fun _ => ?_) (fun _ => ?_) <;> try (exfalso; omega)) | (refine wq_ifge ⟨by omega, by omega⟩ (fun _ => ?_) (fun _ => ?_) <;> try (exfalso; omega)) | (refine wq_ifgt ⟨by omega, by omega⟩ (fun _ => ?_) (fun _ => ?_) <;> try (exfalso; omega)) | (refine wq_ifle ⟨by omega, by omega⟩ (fun _ => ?_) (fun _ => ?_) <;> try (exfalso; omega)) | refine wq_r rfl rfl rfl rfl rfl rfl ?_)
    exact ⟨⟨_, rfl, Or.inr ⟨fun z => by unfold pr at z; omega, rfl⟩⟩, rfl⟩
def cnt2 (f s : Int) : List Int → Nat
  | x :: y :: r => if x = f ∧ y = s then cnt2 f s r + 1 else cnt2 f s (y :: r)
  | _ => 0
def fold2 (f s c : Int) : List Int → List Int
  | x :: y :: r => if x = f ∧ y = s then c :: fold2 f s c r else x :: fold2 f s c (y :: r)
  | l => l
theorem drop2 {xs : List Int} {p : Nat} (h : p + 1 < xs.length) : xs.drop p = rat xs p :: rat xs (p + 1 : Nat) :: xs.drop (p + 2) := by
  have h1 := List.getElem?_eq_getElem (l := xs) (i := p) (by omega)
  have h2 := List.getElem?_eq_getElem (l := xs) (i := p + 1) (by omega)
  rw [rat_in (by omega) (z := xs[p]) (by simpa using h1), rat_in (by omega) (z := xs[p + 1]) (by simpa using h2)]
  rw [List.drop_eq_getElem_cons (by omega), List.drop_eq_getElem_cons (by omega)]
theorem drop1 {xs : List Int} {p : Nat} (h : p < xs.length) : xs.drop p = rat xs p :: xs.drop (p + 1) := by
  have h1 := List.getElem?_eq_getElem (l := xs) (i := p) (by omega)
  rw [rat_in (by omega) (z := xs[p]) (by simpa using h1)]
  rw [List.drop_eq_getElem_cons (by omega)]
theorem cnt2_yes {xs : List Int} {p f s : Int} (h0 : 0 ≤ p) (h : pr xs p f s) : cnt2 f s (xs.drop p.toNat) = cnt2 f s (xs.drop (p + 2).toNat) + 1 := by
  obtain ⟨h1, h2, h3, h4⟩ := h
  have e1 : ((p.toNat : Nat) : Int) = p := by omega
  have e2 : (((p.toNat + 1 : Nat) : Nat) : Int) = p + 1 := by omega
  rw [drop2 (by omega), e1, e2, show (p + 2).toNat = p.toNat + 2 by omega, cnt2, if_pos ⟨h3, h4⟩]
theorem cnt2_no {xs : List Int} {p f s : Int} (h0 : 0 ≤ p) (h : ¬ pr xs p f s) : cnt2 f s (xs.drop p.toNat) = cnt2 f s (xs.drop (p + 1).toNat) := by
  rw [show (p + 1).toNat = p.toNat + 1 by omega]
  by_cases hl : p.toNat + 1 < xs.length
  · have e1 : ((p.toNat : Nat) : Int) = p := by omega
    have e2 : (((p.toNat + 1 : Nat) : Nat) : Int) = p + 1 := by omega
    rw [drop2 hl, e1, e2, cnt2, if_neg (fun z => h ⟨by omega, by omega, z.1, z.2⟩), drop1 hl, e2]
  · by_cases hl2 : p.toNat < xs.length
    · rw [drop1 hl2, List.drop_eq_nil_of_le (by omega), cnt2, cnt2] <;> simp
    · rw [List.drop_eq_nil_of_le (by omega), List.drop_eq_nil_of_le (by omega)]
theorem lp_times {M : PM} {a : Nat} {xs : List Int} {f s : Int} {T : Int} (hf : inR f) (hs : inR s) (hb : SB xs) (h : Rw M a xs) (n : Nat) : ∀ (p t : Int), (0 ≤ p ∧ p ≤ xs.length ∧ xs.length - p < n ∧ t + cnt2 f s (xs.drop p.toNat) = T) → Wp k_X6_timesOfPair (5, [(0, .ref a), (1, .int (I f)), (2, .int (I s)), (3, .int (I t)), (4, .int (I p))], [], M) (fun v M' => v = some (.int (I T)) ∧ M' = M) := by
  have hl := h.len
  induction n with
  | zero => intro p t hi; exfalso; omega
  | succ n ih =>
    intro p t hi
    obtain ⟨i1, i2, i3, i4⟩ := hi
    have hc := c_Row_hasPair (p := p) (by omega) hf hs hb h
    obtain ⟨g, h1, h2, h3, h4⟩ := h
    repeat' (refine wf rfl ?_; first | refine wq_iadd ?_ | refine wq_isub ?_ | refine wq_imul ?_ | refine wq_iinc rfl ?_ | refine wq_goto ?_ | refine wq_k rfl ?_ | refine wq_b rfl rfl ?_ | refine wq_getf (by assumption) rfl ?_ | refine wq_alen (by assumption) rfl ?_ | (refine wq_eq ⟨by omega, by omega⟩ ⟨by omega, by omega⟩ (fun _ => ?_) (fun _ => ?_) <;> try (exfalso; omega)) | (refine wq_ne ⟨by omega, by omega⟩ ⟨by omega, by omega⟩ (fun _ => ?_) (fun _ => ?_) <;> try (exfalso; omega)) | (refine wq_lt ⟨by omega, by omega⟩ ⟨by omega, by omega⟩ (fun _ => ?_) (fun _ => ?_) <;> try (exfalso; omega)) | (refine wq_ge ⟨by omega, by omega⟩ ⟨by omega, by omega⟩ (fun _ => ?_) (fun _ => ?_) <;> try (exfalso; omega)) | (refine wq_gt ⟨by omega, by omega⟩ ⟨by omega, by omega⟩ (fun _ => ?_) (fun _ => ?_) <;> try (exfalso; omega)) | (refine wq_le ⟨by omega, by omega⟩ ⟨by omega, by omega⟩ (fun _ => ?_) (fun _ => ?_) <;> try (exfalso; omega)) | (refine wq_ifeq ⟨by omega, by omega⟩ (fun _ => ?_) (fun _ => ?_) <;> try (exfalso; omega)) | (refine wq_ifne ⟨by omega, by omega⟩ (fun _ => ?_) (fun _ => ?_) <;> try (exfalso; omega)) | (refine wq_iflt ⟨by omega, by omega⟩ (fun _ => ?_) (fun _ => ?_) <;> try (exfalso; omega)) | (refine wq_ifge ⟨by omega, by omega⟩ (fun _ => ?_) (fun _ => ?_) <;> try (exfalso; omega)) | (refine wq_ifgt ⟨by omega, by omega⟩ (fun _ => ?_) (fun _ => ?_) <;> try (exfalso; omega)) | (refine wq_ifle ⟨by omega, by omega⟩ (fun _ => ?_) (fun _ => ?_) <;> try (exfalso; omega)) | refine wq_r rfl rfl rfl rfl rfl rfl ?_)
    · rw [List.drop_eq_nil_of_le (by omega), cnt2] at i4
      · exact ⟨by rw [← i4]; simp, rfl⟩
      · simp
    · refine wf rfl (wq_cv rfl rfl rfl h1 (hc.mono ?_))
      rintro v M' ⟨⟨b, rfl, hq⟩, rfl⟩
      rcases hq with ⟨hq, rfl⟩ | ⟨hq, rfl⟩
      · have hz := cnt2_yes i1 hq
        unfold pr at hq
        repeat' (first | (refine Wp.sub (ih _ _ ?_) ⟨rfl, rfl, rfl, rfl, rfl, trivial⟩ rfl) | (refine wf rfl ?_; first | refine wq_iadd ?_ | refine wq_isub ?_ | refine wq_imul ?_ | refine wq_iinc rfl ?_ | refine wq_goto ?_ | refine wq_k rfl ?_ | refine wq_b rfl rfl ?_ | refine wq_getf (by assumption) rfl ?_ | refine wq_alen (by assumption) rfl ?_ | fail | (refine wq_eq ⟨by omega, by omega⟩ ⟨by omega, by omega⟩ (fun _ => ?_) (fun _ => ?_) <;> try (exfalso; omega)) | (refine wq_ne ⟨by omega, by omega⟩ ⟨by omega, by omega⟩ (fun _ => ?_) (fun _ => ?_) <;> try (exfalso; omega)) | (refine wq_lt ⟨by omega, by omega⟩ ⟨by omega, by omega⟩ (fun _ => ?_) (fun _ => ?_) <;> try (exfalso; omega)) | (refine wq_ge ⟨by omega, by omega⟩ ⟨by omega, by omega⟩ (fun _ => ?_) (fun _ => ?_) <;> try (exfalso; omega)) | (refine wq_gt ⟨by omega, by omega⟩ ⟨by omega, by omega⟩ (fun _ => ?_) (fun _ => ?_) <;> try (exfalso; omega)) | (refine wq_le ⟨by omega, by omega⟩ ⟨by omega, by omega⟩ (fun _ => ?_) (fun _ => ?_) <;> try (exfalso; omega)) | (refine wq_ifeq ⟨by omega, by omega⟩ (fun _ => ?_) (fun _ => ?_) <;> try (exfalso; omega)) | (refine wq_ifne ⟨by omega, by omega⟩ (fun _ => ?_) (fun _ => ?_) <;> try (exfalso; omega)) | (refine wq_iflt ⟨by omega, by omega⟩ (fun _ => ?_) (fun _ => ?_) <;> try (exfalso; omega)) | (refine wq_ifge ⟨by omega, by omega⟩ (fun _ => ?_) (fun _ => ?_) <;> try (exfalso; omega)) | (refine wq_ifgt ⟨by omega, by omega⟩ (fun _ => ?_) (fun _ => ?_) <;> try (exfalso; omega)) | (refine wq_ifle ⟨by omega, by omega⟩ (fun _ => ?_) (fun _ => ?_) <;> try (exfalso; omega)) | refine wq_r rfl rfl rfl rfl rfl rfl ?_))
        exact ⟨by omega, by omega, by omega, by omega⟩
      · have hz := cnt2_no i1 hq
        repeat' (first | (refine Wp.sub (ih _ _ ?_) ⟨rfl, rfl, rfl, rfl, rfl, trivial⟩ rfl) | (refine wf rfl ?_; first | refine wq_iadd ?_ | refine wq_isub ?_ | refine wq_imul ?_ | refine wq_iinc rfl ?_ | refine wq_goto ?_ | refine wq_k rfl ?_ | refine wq_b rfl rfl ?_ | refine wq_getf (by assumption) rfl ?_ | refine wq_alen (by assumption) rfl ?_ | fail | (refine wq_eq ⟨by omega, by omega⟩ ⟨by omega, by omega⟩ (fun _ => ?_) (fun _ => ?_) <;> try (exfalso; omega)) | (refine wq_ne ⟨by omega, by omega⟩ ⟨by omega, by omega⟩ (fun _ => ?_) (fun _ => ?_) <;> try (exfalso; omega)) | (refine wq_lt ⟨by omega, by omega⟩ ⟨by omega, by omega⟩ (fun _ => ?_) (fun _ => ?_) <;> try (exfalso; omega)) | (refine wq_ge ⟨by omega, by omega⟩ ⟨by omega, by omega⟩ (fun _ => ?_) (fun _ => ?_) <;> try (exfalso; omega)) | (refine wq_gt ⟨by omega, by omega⟩ ⟨by omega, by omega⟩ (fun _ => ?_) (fun _ => ?_) <;> try (exfalso; omega)) | (refine wq_le ⟨by omega, by omega⟩ ⟨by omega, by omega⟩ (fun _ => ?_) (fun _ => ?_) <;> try (exfalso; omega)) | (refine wq_ifeq ⟨by omega, by omega⟩ (fun _ => ?_) (fun _ => ?_) <;> try (exfalso; omega)) | (refine wq_ifne ⟨by omega, by omega⟩ (fun _ => ?_) (fun _ => ?_) <;> try (exfalso; omega)) | (refine wq_iflt ⟨by omega, by omega⟩ (fun _ => ?_) (fun _ => ?_) <;> try (exfalso; omega)) | (refine wq_ifge ⟨by omega, by omega⟩ (fun _ => ?_) (fun _ => ?_) <;> try (exfalso; omega)) | (refine wq_ifgt ⟨by omega, by omega⟩ (fun _ => ?_) (fun _ => ?_) <;> try (exfalso; omega)) | (refine wq_ifle ⟨by omega, by omega⟩ (fun _ => ?_) (fun _ => ?_) <;> try (exfalso; omega)) | refine wq_r rfl rfl rfl rfl rfl rfl ?_))
        exact ⟨by omega, by omega, by omega, by omega⟩
theorem c_Row_timesOfPair {M : PM} {a : Nat} {xs : List Int} {f s : Int} (hf : inR f) (hs : inR s) (hb : SB xs) (h : Rw M a xs) : Wm 77 [.ref a, .int (I f), .int (I s)] M (fun v M' => v = some (.int (I (cnt2 f s xs))) ∧ M' = M) := by
  have hl := h.len
  refine wm_in (lv := _) rfl rfl rfl ?_
  repeat' (first | (refine Wp.sub (lp_times hf hs hb h 100 _ _ ?_) ⟨rfl, rfl, rfl, rfl, rfl, trivial⟩ rfl) | (refine wf rfl ?_; first | refine wq_iadd ?_ | refine wq_isub ?_ | refine wq_imul ?_ | refine wq_iinc rfl ?_ | refine wq_goto ?_ | refine wq_k rfl ?_ | refine wq_b rfl rfl ?_ | refine wq_getf (by assumption) rfl ?_ | refine wq_alen (by assumption) rfl ?_ | fail | (refine wq_eq ⟨by omega, by omega⟩ ⟨by omega, by omega⟩ (fun _ => ?_) (fun _ => ?_) <;> try (exfalso; omega)) | (refine wq_ne ⟨by omega, by omega⟩ ⟨by omega, by omega⟩ (fun _ => ?_) (fun _ => ?_) <;> try (exfalso; omega)) | (refine wq_lt ⟨by omega, by omega⟩ ⟨by omega, by omega⟩ (fun _ => ?_) (fun _ => ?_) <;> try (exfalso; omega)) | (refine wq_ge ⟨by omega, by omega⟩ ⟨by omega, by omega⟩ (fun _ => ?_) (fun _ => ?_) <;> try (exfalso; omega)) | (refine wq_gt ⟨by omega, by omega⟩ ⟨by omega, by omega⟩ (fun _ => ?_) (fun _ => ?_) <;> try (exfalso; omega)) | (refine wq_le ⟨by omega, by omega⟩ ⟨by omega, by omega⟩ (fun _ => ?_) (fun _ => ?_) <;> try (exfalso; omega)) | (refine wq_ifeq ⟨by omega, by omega⟩ (fun _ => ?_) (fun _ => ?_) <;> try (exfalso; omega)) | (refine wq_ifne ⟨by omega, by omega⟩ (fun _ => ?_) (fun _ => ?_) <;> try (exfalso; omega)) | (refine wq_iflt ⟨by omega, by omega⟩ (fun _ => ?_) (fun _ => ?_) <;> try (exfalso; omega)) | (refine wq_ifge ⟨by omega, by omega⟩ (fun _ => ?_) (fun _ => ?_) <;> try (exfalso; omega)) | (refine wq_ifgt ⟨by omega, by omega⟩ (fun _ => ?_) (fun _ => ?_) <;> try (exfalso; omega)) | (refine wq_ifle ⟨by omega, by omega⟩ (fun _ => ?_) (fun _ => ?_) <;> try (exfalso; omega)) | refine wq_r rfl rfl rfl rfl rfl rfl ?_))
  exact ⟨by omega, by omega, by omega, by simp⟩
end
section
theorem c_Row_opn {M : PM} {a b : Nat} {xs fl : List Int} {p : Int} (hp : 0 ≤ p ∧ p < xs.length) (hab : a ≠ b ∧ a + 1 ≠ b ∧ b + 1 ≠ a) (hf : 1 ≤ fl.length) (h : Rw M a xs) (h' : Rw M b fl) : Wm 74 [.ref a, .int (I p), .ref b] M (fun v M' =>
    (80 < xs.length + fl.length - 1 ∧ v = some (.int (I 0)) ∧ M' = M) ∨
    (xs.length + fl.length - 1 ≤ 80 ∧ v = some (.int (I 1)) ∧ Fr (fun q => q = a ∨ q = a + 1) M M' ∧ Rw M' a (xs.take p.toNat ++ (fl ++ xs.drop (p.toNat + 1))))) := by
  have hl := h.len
  have hl' := h'.len
  have hc := c_Row_has (p := p) ⟨by omega, by omega⟩ h
  have hc1 := c_Row_shift (p := p + 1) (d := (fl.length : Int) - 1) ⟨by omega, by omega⟩ (by omega) h
  obtain ⟨g, h1, h2, h3, h4⟩ := id h
  obtain ⟨g', k1, k2, k3, k4⟩ := id h'
  refine wm_in (lv := _) rfl rfl rfl ?_
  repeat (refine wf rfl ?_; first | refine wq_iadd ?_ | refine wq_isub ?_ | refine wq_imul ?_ | refine wq_iinc rfl ?_ | refine wq_goto ?_ | refine wq_k rfl ?_ | refine wq_b rfl rfl ?_ | refine wq_getf (by assumption) rfl ?_ | refine wq_alen (by assumption) rfl ?_)
  refine wf rfl (wq_cv rfl rfl rfl h1 (hc.mono ?_))
  rintro v M' ⟨rfl, rfl⟩
  rw [if_pos (by omega)]
  repeat' (refine wf rfl ?_; first | refine wq_iadd ?_ | refine wq_isub ?_ | refine wq_imul ?_ | refine wq_iinc rfl ?_ | refine wq_goto ?_ | refine wq_k rfl ?_ | refine wq_b rfl rfl ?_ | refine wq_getf (by assumption) rfl ?_ | refine wq_alen (by assumption) rfl ?_ | (refine wq_eq ⟨by omega, by omega⟩ ⟨by omega, by omega⟩ (fun _ => ?_) (fun _ => ?_) <;> try (exfalso; omega)) | (refine wq_ne ⟨by omega, by omega⟩ ⟨by omega, by omega⟩ (fun _ => ?_) (fun _ => ?_) <;> try (exfalso; omega)) | (refine wq_lt ⟨by omega, by omega⟩ ⟨by omega, by omega⟩ (fun _ => ?_) (fun _ => ?_) <;> try (exfalso; omega)) | (refine wq_ge ⟨by omega, by omega⟩ ⟨by omega, by omega⟩ (fun _ => ?_) (fun _ => ?_) <;> try (exfalso; omega)) | (refine wq_gt ⟨by omega, by omega⟩ ⟨by omega, by omega⟩ (fun _ => ?_) (fun _ => ?_) <;> try (exfalso; omega)) | (refine wq_le ⟨by omega, by omega⟩ ⟨by omega, by omega⟩ (fun _ => ?_) (fun _ => ?_) <;> try (exfalso; omega)) | (refine wq_ifeq ⟨by omega, by omega⟩ (fun _ => ?_) (fun _ => ?_) <;> try (exfalso; omega)) | (refine wq_ifne ⟨by omega, by omega⟩ (fun _ => ?_) (fun _ => ?_) <;> try (exfalso; omega)) | (refine wq_iflt ⟨by omega, by omega⟩ (fun _ => ?_) (fun _ => ?_) <;> try (exfalso; omega)) | (refine wq_ifge ⟨by omega, by omega⟩ (fun _ => ?_) (fun _ => ?_) <;> try (exfalso; omega)) | (refine wq_ifgt ⟨by omega, by omega⟩ (fun _ => ?_) (fun _ => ?_) <;> try (exfalso; omega)) | (refine wq_ifle ⟨by omega, by omega⟩ (fun _ => ?_) (fun _ => ?_) <;> try (exfalso; omega)) | refine wq_r rfl rfl rfl rfl rfl rfl ?_)
  refine wf rfl (wq_cv rfl rfl rfl h1 (hc1.mono ?_))
  rintro v M1 (⟨q, rfl, rfl⟩ | ⟨q, rfl, f1, ys, hy, q2, q3, q4⟩)
  · repeat' (refine wf rfl ?_; first | refine wq_iadd ?_ | refine wq_isub ?_ | refine wq_imul ?_ | refine wq_iinc rfl ?_ | refine wq_goto ?_ | refine wq_k rfl ?_ | refine wq_b rfl rfl ?_ | refine wq_getf (by assumption) rfl ?_ | refine wq_alen (by assumption) rfl ?_ | (refine wq_eq ⟨by omega, by omega⟩ ⟨by omega, by omega⟩ (fun _ => ?_) (fun _ => ?_) <;> try (exfalso; omega)) | (refine wq_ne ⟨by omega, by omega⟩ ⟨by omega, by omega⟩ (fun _ => ?_) (fun _ => ?_) <;> try (exfalso; omega)) | (refine wq_lt ⟨by omega, by omega⟩ ⟨by omega, by omega⟩ (fun _ => ?_) (fun _ => ?_) <;> try (exfalso; omega)) | (refine wq_ge ⟨by omega, by omega⟩ ⟨by omega, by omega⟩ (fun _ => ?_) (fun _ => ?_) <;> try (exfalso; omega)) | (refine wq_gt ⟨by omega, by omega⟩ ⟨by omega, by omega⟩ (fun _ => ?_) (fun _ => ?_) <;> try (exfalso; omega)) | (refine wq_le ⟨by omega, by omega⟩ ⟨by omega, by omega⟩ (fun _ => ?_) (fun _ => ?_) <;> try (exfalso; omega)) | (refine wq_ifeq ⟨by omega, by omega⟩ (fun _ => ?_) (fun _ => ?_) <;> try (exfalso; omega)) | (refine wq_ifne ⟨by omega, by omega⟩ (fun _ => ?_) (fun _ => ?_) <;> try (exfalso; omega)) | (refine wq_iflt ⟨by omega, by omega⟩ (fun _ => ?_) (fun _ => ?_) <;> try (exfalso; omega)) | (refine wq_ifge ⟨by omega, by omega⟩ (fun _ => ?_) (fun _ => ?_) <;> try (exfalso; omega)) | (refine wq_ifgt ⟨by omega, by omega⟩ (fun _ => ?_) (fun _ => ?_) <;> try (exfalso; omega)) | (refine wq_ifle ⟨by omega, by omega⟩ (fun _ => ?_) (fun _ => ?_) <;> try (exfalso; omega)) | refine wq_r rfl rfl rfl rfl rfl rfl ?_)
    exact Or.inl ⟨by omega, rfl, rfl⟩
  · obtain ⟨gy, y1, y2, y3, y4⟩ := id hy
    have k1a := f1.at (by omega) k1
    have k2a := f1.at (by omega) k2
    repeat' (refine wf rfl ?_; first | refine wq_iadd ?_ | refine wq_isub ?_ | refine wq_imul ?_ | refine wq_iinc rfl ?_ | refine wq_goto ?_ | refine wq_k rfl ?_ | refine wq_b rfl rfl ?_ | refine wq_getf (by assumption) rfl ?_ | refine wq_alen (by assumption) rfl ?_ | (refine wq_eq ⟨by omega, by omega⟩ ⟨by omega, by omega⟩ (fun _ => ?_) (fun _ => ?_) <;> try (exfalso; omega)) | (refine wq_ne ⟨by omega, by omega⟩ ⟨by omega, by omega⟩ (fun _ => ?_) (fun _ => ?_) <;> try (exfalso; omega)) | (refine wq_lt ⟨by omega, by omega⟩ ⟨by omega, by omega⟩ (fun _ => ?_) (fun _ => ?_) <;> try (exfalso; omega)) | (refine wq_ge ⟨by omega, by omega⟩ ⟨by omega, by omega⟩ (fun _ => ?_) (fun _ => ?_) <;> try (exfalso; omega)) | (refine wq_gt ⟨by omega, by omega⟩ ⟨by omega, by omega⟩ (fun _ => ?_) (fun _ => ?_) <;> try (exfalso; omega)) | (refine wq_le ⟨by omega, by omega⟩ ⟨by omega, by omega⟩ (fun _ => ?_) (fun _ => ?_) <;> try (exfalso; omega)) | (refine wq_ifeq ⟨by omega, by omega⟩ (fun _ => ?_) (fun _ => ?_) <;> try (exfalso; omega)) | (refine wq_ifne ⟨by omega, by omega⟩ (fun _ => ?_) (fun _ => ?_) <;> try (exfalso; omega)) | (refine wq_iflt ⟨by omega, by omega⟩ (fun _ => ?_) (fun _ => ?_) <;> try (exfalso; omega)) | (refine wq_ifge ⟨by omega, by omega⟩ (fun _ => ?_) (fun _ => ?_) <;> try (exfalso; omega)) | (refine wq_ifgt ⟨by omega, by omega⟩ (fun _ => ?_) (fun _ => ?_) <;> try (exfalso; omega)) | (refine wq_ifle ⟨by omega, by omega⟩ (fun _ => ?_) (fun _ => ?_) <;> try (exfalso; omega)) | refine wq_r rfl rfl rfl rfl rfl rfl ?_)
    refine wf rfl (wq_acopy k2a y2 rfl rfl ⟨by omega, by omega⟩ ⟨by omega, by omega⟩ ⟨by omega, by omega⟩ (by omega) (by omega) (by omega) (by omega) (by omega) rfl (fun M2 e2 f2 => ?_))
    repeat' (refine wf rfl ?_; first | refine wq_iadd ?_ | refine wq_isub ?_ | refine wq_imul ?_ | refine wq_iinc rfl ?_ | refine wq_goto ?_ | refine wq_k rfl ?_ | refine wq_b rfl rfl ?_ | refine wq_getf (by assumption) rfl ?_ | refine wq_alen (by assumption) rfl ?_ | (refine wq_eq ⟨by omega, by omega⟩ ⟨by omega, by omega⟩ (fun _ => ?_) (fun _ => ?_) <;> try (exfalso; omega)) | (refine wq_ne ⟨by omega, by omega⟩ ⟨by omega, by omega⟩ (fun _ => ?_) (fun _ => ?_) <;> try (exfalso; omega)) | (refine wq_lt ⟨by omega, by omega⟩ ⟨by omega, by omega⟩ (fun _ => ?_) (fun _ => ?_) <;> try (exfalso; omega)) | (refine wq_ge ⟨by omega, by omega⟩ ⟨by omega, by omega⟩ (fun _ => ?_) (fun _ => ?_) <;> try (exfalso; omega)) | (refine wq_gt ⟨by omega, by omega⟩ ⟨by omega, by omega⟩ (fun _ => ?_) (fun _ => ?_) <;> try (exfalso; omega)) | (refine wq_le ⟨by omega, by omega⟩ ⟨by omega, by omega⟩ (fun _ => ?_) (fun _ => ?_) <;> try (exfalso; omega)) | (refine wq_ifeq ⟨by omega, by omega⟩ (fun _ => ?_) (fun _ => ?_) <;> try (exfalso; omega)) | (refine wq_ifne ⟨by omega, by omega⟩ (fun _ => ?_) (fun _ => ?_) <;> try (exfalso; omega)) | (refine wq_iflt ⟨by omega, by omega⟩ (fun _ => ?_) (fun _ => ?_) <;> try (exfalso; omega)) | (refine wq_ifge ⟨by omega, by omega⟩ (fun _ => ?_) (fun _ => ?_) <;> try (exfalso; omega)) | (refine wq_ifgt ⟨by omega, by omega⟩ (fun _ => ?_) (fun _ => ?_) <;> try (exfalso; omega)) | (refine wq_ifle ⟨by omega, by omega⟩ (fun _ => ?_) (fun _ => ?_) <;> try (exfalso; omega)) | refine wq_r rfl rfl rfl rfl rfl rfl ?_)
    refine Or.inr ⟨by omega, rfl, f1.tr (f2.mono (fun q hq => Or.inr hq)), ?_⟩
    have hlen : (xs.take p.toNat ++ (fl ++ xs.drop (p.toNat + 1))).length = ys.length := by
      simp only [List.length_append, List.length_take, List.length_drop]
      omega
    refine ⟨_, by rw [hlen]; exact f2.at (by omega) y1, e2, by omega, fun k hk => ?_⟩
    rw [hlen] at hk
    rcases (show k < p.toNat ∨ (p.toNat ≤ k ∧ k < p.toNat + fl.length) ∨ p.toNat + fl.length ≤ k by omega) with hk1 | hk1 | hk1
    · rw [List.getElem?_append_left (by rw [List.length_take]; omega), List.getElem?_take_of_lt hk1, cpz_out (by omega), ← q3 k (by omega) (by omega)]
      exact y4 k hk
    · rw [List.getElem?_append_right (by rw [List.length_take]; omega), List.length_take, List.getElem?_append_left (by omega), cpz_in (by omega) (by omega), show k - min p.toNat xs.length = k - p.toNat by omega, k4 _ (by omega)]
      congr 2
      omega
    · rw [List.getElem?_append_right (by rw [List.length_take]; omega), List.length_take, List.getElem?_append_right (by omega), List.getElem?_drop, cpz_out (by omega)]
      have := q4 (p.toNat + 1 + (k - min p.toNat xs.length - fl.length)) (by omega) (by omega)
      rw [← this, ← y4 k hk]
      congr 1
      omega
theorem rat_eq {xs ys : List Int} {p : Int} (hl : ys.length = xs.length) (h : 0 ≤ p → ys[p.toNat]? = xs[p.toNat]?) : rat ys p = rat xs p := by
  unfold rat
  split
  · rfl
  · rw [List.getD_eq_getElem?_getD, List.getD_eq_getElem?_getD, h (by omega)]
theorem fold2_yes {xs : List Int} {p f s c : Int} (h0 : 0 ≤ p) (h : pr xs p f s) : fold2 f s c (xs.drop p.toNat) = c :: fold2 f s c (xs.drop (p + 2).toNat) := by
  obtain ⟨h1, h2, h3, h4⟩ := h
  have e1 : ((p.toNat : Nat) : Int) = p := by omega
  have e2 : (((p.toNat + 1 : Nat) : Nat) : Int) = p + 1 := by omega
  rw [drop2 (by omega), e1, e2, show (p + 2).toNat = p.toNat + 2 by omega, fold2, if_pos ⟨h3, h4⟩]
theorem fold2_no {xs : List Int} {p f s c : Int} (h0 : 0 ≤ p) (hp : p < xs.length) (h : ¬ pr xs p f s) : fold2 f s c (xs.drop p.toNat) = rat xs p :: fold2 f s c (xs.drop (p + 1).toNat) := by
  rw [show (p + 1).toNat = p.toNat + 1 by omega]
  have e1 : ((p.toNat : Nat) : Int) = p := by omega
  by_cases hl : p.toNat + 1 < xs.length
  · have e2 : (((p.toNat + 1 : Nat) : Nat) : Int) = p + 1 := by omega
    rw [drop2 hl, e1, e2, fold2, if_neg (fun z => h ⟨by omega, by omega, z.1, z.2⟩), drop1 hl, e2]
  · rw [drop1 (by omega), e1, List.drop_eq_nil_of_le (by omega), fold2, fold2] <;> simp
theorem take_rset {ys : List Int} {t v : Int} (h0 : 0 ≤ t) (h : t < ys.length) : (rset ys t v).take (t + 1).toNat = ys.take t.toNat ++ [v] := by
  unfold rset
  rw [if_neg (by omega), show (t + 1).toNat = t.toNat + 1 by omega, List.take_add_one, List.take_set_of_le (Nat.le_refl _), List.getElem?_set_self (by omega)]
  rfl
theorem lp_fold {M : PM} {a : Nat} {xs : List Int} {f s c : Int} (hf : inR f) (hs : inR s) (hc : 0 ≤ c ∧ c < 34) (hb : SB xs) (n : Nat) : ∀ (p t : Int) (M1 : PM), (0 ≤ t ∧ t ≤ p ∧ p ≤ xs.length ∧ xs.length - p < n ∧ Fr (fun q => q = a ∨ q = a + 1) M M1 ∧ ∃ ys, Rw M1 a ys ∧ ys.length = xs.length ∧ SB ys ∧ (∀ k : Nat, p ≤ k → ys[k]? = xs[k]?) ∧ ys.take t.toNat ++ fold2 f s c (xs.drop p.toNat) = fold2 f s c xs) →
    Wp k_X6_foldPair (6, [(0, .ref a), (1, .int (I f)), (2, .int (I s)), (3, .int (I c)), (4, .int (I p)), (5, .int (I t))], [], M1) (fun v M' => v = none ∧ Rw M' a (fold2 f s c xs) ∧ Fr (fun q => q = a ∨ q = a + 1) M M') := by
  induction n with
  | zero => intro p t M1 hi; exfalso; omega
  | succ n ih =>
    intro p t M1 hi
    obtain ⟨i1, i2, i3, i4, i5, ys, hy, i6, i7, i8, i9⟩ := hi
    have hl := hy.len
    have hcp := c_Row_hasPair (p := p) (by omega) hf hs i7 hy
    have hca := c_Row_at (p := p) ⟨by omega, by omega⟩ hy
    have e8 : ∀ q : Int, p ≤ q → rat ys q = rat xs q := fun q hq => rat_eq i6 (fun h0 => i8 q.toNat (by omega))
    have epr : pr ys p f s ↔ pr xs p f s := by
      unfold pr
      rw [e8 p (by omega), e8 (p + 1) (by omega), i6]
    obtain ⟨g, h1, h2, h3, h4⟩ := id hy
    repeat' (refine wf rfl ?_; first | refine wq_iadd ?_ | refine wq_isub ?_ | refine wq_imul ?_ | refine wq_iinc rfl ?_ | refine wq_goto ?_ | refine wq_k rfl ?_ | refine wq_b rfl rfl ?_ | refine wq_getf (by assumption) rfl ?_ | refine wq_alen (by assumption) rfl ?_ | (refine wq_eq ⟨by omega, by omega⟩ ⟨by omega, by omega⟩ (fun _ => ?_) (fun _ => ?_) <;> try (exfalso; omega)) | (refine wq_ne ⟨by omega, by omega⟩ ⟨by omega, by omega⟩ (fun _ => ?_) (fun _ => ?_) <;> try (exfalso; omega)) | (refine wq_lt ⟨by omega, by omega⟩ ⟨by omega, by omega⟩ (fun _ => ?_) (fun _ => ?_) <;> try (exfalso; omega)) | (refine wq_ge ⟨by omega, by omega⟩ ⟨by omega, by omega⟩ (fun _ => ?_) (fun _ => ?_) <;> try (exfalso; omega)) | (refine wq_gt ⟨by omega, by omega⟩ ⟨by omega, by omega⟩ (fun _ => ?_) (fun _ => ?_) <;> try (exfalso; omega)) | (refine wq_le ⟨by omega, by omega⟩ ⟨by omega, by omega⟩ (fun _ => ?_) (fun _ => ?_) <;> try (exfalso; omega)) | (refine wq_ifeq ⟨by omega, by omega⟩ (fun _ => ?_) (fun _ => ?_) <;> try (exfalso; omega)) | (refine wq_ifne ⟨by omega, by omega⟩ (fun _ => ?_) (fun _ => ?_) <;> try (exfalso; omega)) | (refine wq_iflt ⟨by omega, by omega⟩ (fun _ => ?_) (fun _ => ?_) <;> try (exfalso; omega)) | (refine wq_ifge ⟨by omega, by omega⟩ (fun _ => ?_) (fun _ => ?_) <;> try (exfalso; omega)) | (refine wq_ifgt ⟨by omega, by omega⟩ (fun _ => ?_) (fun _ => ?_) <;> try (exfalso; omega)) | (refine wq_ifle ⟨by omega, by omega⟩ (fun _ => ?_) (fun _ => ?_) <;> try (exfalso; omega)) | refine wq_r rfl rfl rfl rfl rfl rfl ?_)
    · refine wf rfl (wq_putf h1 rfl (fun M2 e2 f2 => ?_))
      repeat' (refine wf rfl ?_; first | refine wq_iadd ?_ | refine wq_isub ?_ | refine wq_imul ?_ | refine wq_iinc rfl ?_ | refine wq_goto ?_ | refine wq_k rfl ?_ | refine wq_b rfl rfl ?_ | refine wq_getf (by assumption) rfl ?_ | refine wq_alen (by assumption) rfl ?_ | (refine wq_eq ⟨by omega, by omega⟩ ⟨by omega, by omega⟩ (fun _ => ?_) (fun _ => ?_) <;> try (exfalso; omega)) | (refine wq_ne ⟨by omega, by omega⟩ ⟨by omega, by omega⟩ (fun _ => ?_) (fun _ => ?_) <;> try (exfalso; omega)) | (refine wq_lt ⟨by omega, by omega⟩ ⟨by omega, by omega⟩ (fun _ => ?_) (fun _ => ?_) <;> try (exfalso; omega)) | (refine wq_ge ⟨by omega, by omega⟩ ⟨by omega, by omega⟩ (fun _ => ?_) (fun _ => ?_) <;> try (exfalso; omega)) | (refine wq_gt ⟨by omega, by omega⟩ ⟨by omega, by omega⟩ (fun _ => ?_) (fun _ => ?_) <;> try (exfalso; omega)) | (refine wq_le ⟨by omega, by omega⟩ ⟨by omega, by omega⟩ (fun _ => ?_) (fun _ => ?_) <;> try (exfalso; omega)) | (refine wq_ifeq ⟨by omega, by omega⟩ (fun _ => ?_) (fun _ => ?_) <;> try (exfalso; omega)) | (refine wq_ifne ⟨by omega, by omega⟩ (fun _ => ?_) (fun _ => ?_) <;> try (exfalso; omega)) | (refine wq_iflt ⟨by omega, by omega⟩ (fun _ => ?_) (fun _ => ?_) <;> try (exfalso; omega)) | (refine wq_ifge ⟨by omega, by omega⟩ (fun _ => ?_) (fun _ => ?_) <;> try (exfalso; omega)) | (refine wq_ifgt ⟨by omega, by omega⟩ (fun _ => ?_) (fun _ => ?_) <;> try (exfalso; omega)) | (refine wq_ifle ⟨by omega, by omega⟩ (fun _ => ?_) (fun _ => ?_) <;> try (exfalso; omega)) | refine wq_r rfl rfl rfl rfl rfl rfl ?_)
      have hp : p = xs.length := by omega
      rw [List.drop_eq_nil_of_le (by omega), fold2, List.append_nil] at i9
      · refine ⟨rfl, ?_, i5.tr (f2.mono (fun q hq => Or.inl hq))⟩
        have hn : (((fold2 f s c xs).length : Nat) : Int) = t := by
          rw [← i9, List.length_take]; omega
        refine ⟨g, by rw [hn]; exact e2, f2.at (by omega) h2, by omega, fun k hk => ?_⟩
        rw [← i9, List.getElem?_take_of_lt (by omega)]
        exact h4 k (by omega)
      · simp
    · refine wf rfl (wq_cv rfl rfl rfl h1 (hcp.mono ?_))
      rintro v M1 ⟨⟨b, rfl, hq⟩, rfl⟩
      have bd := rat_bd i7 p
      have fin : ∀ (x : Int) (q : Int) (M2 : PM), 0 ≤ x → x < 34 → (p + 1 ≤ q) → (q ≤ xs.length) → fold2 f s c (xs.drop p.toNat) = x :: fold2 f s c (xs.drop q.toNat) → Rw M2 a (rset ys t x) → Fr (fun q => q = a + 1) M1 M2 → (0 ≤ t + 1 ∧ t + 1 ≤ q ∧ q ≤ xs.length ∧ xs.length - q < n ∧ Fr (fun q => q = a ∨ q = a + 1) M M2 ∧ ∃ ys, Rw M2 a ys ∧ ys.length = xs.length ∧ SB ys ∧ (∀ k : Nat, q ≤ k → ys[k]? = xs[k]?) ∧ ys.take (t + 1).toNat ++ fold2 f s c (xs.drop q.toNat) = fold2 f s c xs) := by
        intro x q M2 x1 x2 q1 q2 q3 hr f2
        refine ⟨by omega, by omega, by omega, by omega, i5.tr (f2.mono (fun q hq => Or.inr hq)), _, hr, ?_, ?_, ?_, ?_⟩
        · unfold rset
          split
          · exact i6
          · rw [List.length_set]; exact i6
        · unfold rset
          split
          · exact i7
          · intro z hz
            rcases List.mem_or_eq_of_mem_set hz with hz | hz
            · exact i7 z hz
            · omega
        · intro k hk
          unfold rset
          rw [if_neg (by omega), List.getElem?_set_ne (by omega)]
          exact i8 k (by omega)
        · rw [take_rset i1 (by omega), List.append_assoc, List.singleton_append, ← q3]
          exact i9
      rcases hq with ⟨hq, rfl⟩ | ⟨hq, rfl⟩
      · have hq := epr.mp hq
        have hz := fold2_yes (c := c) (by omega) hq
        unfold pr at hq
        have hset := c_Row_set (p := t) (s := c) ⟨by omega, by omega⟩ hy
        repeat' (refine wf rfl ?_; first | refine wq_iadd ?_ | refine wq_isub ?_ | refine wq_imul ?_ | refine wq_iinc rfl ?_ | refine wq_goto ?_ | refine wq_k rfl ?_ | refine wq_b rfl rfl ?_ | refine wq_getf (by assumption) rfl ?_ | refine wq_alen (by assumption) rfl ?_ | (refine wq_eq ⟨by omega, by omega⟩ ⟨by omega, by omega⟩ (fun _ => ?_) (fun _ => ?_) <;> try (exfalso; omega)) | (refine wq_ne ⟨by omega, by omega⟩ ⟨by omega, by omega⟩ (fun _ => ?_) (fun _ => ?_) <;> try (exfalso; omega)) | (refine wq_lt ⟨by omega, by omega⟩ ⟨by omega, by omega⟩ (fun _ => ?_) (fun _ => ?_) <;> try (exfalso; omega)) | (refine wq_ge ⟨by omega, by omega⟩ ⟨by omega, by omega⟩ (fun _ => ?_) (fun _ => ?_) <;> try (exfalso; omega)) | (refine wq_gt ⟨by omega, by omega⟩ ⟨by omega, by omega⟩ (fun _ => ?_) (fun _ => ?_) <;> try (exfalso; omega)) | (refine wq_le ⟨by omega, by omega⟩ ⟨by omega, by omega⟩ (fun _ => ?_) (fun _ => ?_) <;> try (exfalso; omega)) | (refine wq_ifeq ⟨by omega, by omega⟩ (fun _ => ?_) (fun _ => ?_) <;> try (exfalso; omega)) | (refine wq_ifne ⟨by omega, by omega⟩ (fun _ => ?_) (fun _ => ?_) <;> try (exfalso; omega)) | (refine wq_iflt ⟨by omega, by omega⟩ (fun _ => ?_) (fun _ => ?_) <;> try (exfalso; omega)) | (refine wq_ifge ⟨by omega, by omega⟩ (fun _ => ?_) (fun _ => ?_) <;> try (exfalso; omega)) | (refine wq_ifgt ⟨by omega, by omega⟩ (fun _ => ?_) (fun _ => ?_) <;> try (exfalso; omega)) | (refine wq_ifle ⟨by omega, by omega⟩ (fun _ => ?_) (fun _ => ?_) <;> try (exfalso; omega)) | refine wq_r rfl rfl rfl rfl rfl rfl ?_)
        refine wf rfl (wq_cv rfl rfl rfl h1 (hset.mono ?_))
        rintro v M2 ⟨rfl, hr, f2⟩
        repeat' (first | (refine Wp.sub (ih _ _ _ ?_) ⟨rfl, rfl, rfl, rfl, rfl, rfl, trivial⟩ rfl) | (refine wf rfl ?_; first | refine wq_iadd ?_ | refine wq_isub ?_ | refine wq_imul ?_ | refine wq_iinc rfl ?_ | refine wq_goto ?_ | refine wq_k rfl ?_ | refine wq_b rfl rfl ?_ | refine wq_getf (by assumption) rfl ?_ | refine wq_alen (by assumption) rfl ?_ | fail | (refine wq_eq ⟨by omega, by omega⟩ ⟨by omega, by omega⟩ (fun _ => ?_) (fun _ => ?_) <;> try (exfalso; omega)) | (refine wq_ne ⟨by omega, by omega⟩ ⟨by omega, by omega⟩ (fun _ => ?_) (fun _ => ?_) <;> try (exfalso; omega)) | (refine wq_lt ⟨by omega, by omega⟩ ⟨by omega, by omega⟩ (fun _ => ?_) (fun _ => ?_) <;> try (exfalso; omega)) | (refine wq_ge ⟨by omega, by omega⟩ ⟨by omega, by omega⟩ (fun _ => ?_) (fun _ => ?_) <;> try (exfalso; omega)) | (refine wq_gt ⟨by omega, by omega⟩ ⟨by omega, by omega⟩ (fun _ => ?_) (fun _ => ?_) <;> try (exfalso; omega)) | (refine wq_le ⟨by omega, by omega⟩ ⟨by omega, by omega⟩ (fun _ => ?_) (fun _ => ?_) <;> try (exfalso; omega)) | (refine wq_ifeq ⟨by omega, by omega⟩ (fun _ => ?_) (fun _ => ?_) <;> try (exfalso; omega)) | (refine wq_ifne ⟨by omega, by omega⟩ (fun _ => ?_) (fun _ => ?_) <;> try (exfalso; omega)) | (refine wq_iflt ⟨by omega, by omega⟩ (fun _ => ?_) (fun _ => ?_) <;> try (exfalso; omega)) | (refine wq_ifge ⟨by omega, by omega⟩ (fun _ => ?_) (fun _ => ?_) <;> try (exfalso; omega)) | (refine wq_ifgt ⟨by omega, by omega⟩ (fun _ => ?_) (fun _ => ?_) <;> try (exfalso; omega)) | (refine wq_ifle ⟨by omega, by omega⟩ (fun _ => ?_) (fun _ => ?_) <;> try (exfalso; omega)) | refine wq_r rfl rfl rfl rfl rfl rfl ?_))
        exact fin c (p + 2) M2 (by omega) (by omega) (by omega) (by omega) hz hr f2
      · have hq := fun z => hq (epr.mpr z)
        have hz := fold2_no (c := c) (by omega) (by omega) hq
        have hset := c_Row_set (p := t) (s := rat ys p) ⟨by omega, by omega⟩ hy
        repeat' (refine wf rfl ?_; first | refine wq_iadd ?_ | refine wq_isub ?_ | refine wq_imul ?_ | refine wq_iinc rfl ?_ | refine wq_goto ?_ | refine wq_k rfl ?_ | refine wq_b rfl rfl ?_ | refine wq_getf (by assumption) rfl ?_ | refine wq_alen (by assumption) rfl ?_ | (refine wq_eq ⟨by omega, by omega⟩ ⟨by omega, by omega⟩ (fun _ => ?_) (fun _ => ?_) <;> try (exfalso; omega)) | (refine wq_ne ⟨by omega, by omega⟩ ⟨by omega, by omega⟩ (fun _ => ?_) (fun _ => ?_) <;> try (exfalso; omega)) | (refine wq_lt ⟨by omega, by omega⟩ ⟨by omega, by omega⟩ (fun _ => ?_) (fun _ => ?_) <;> try (exfalso; omega)) | (refine wq_ge ⟨by omega, by omega⟩ ⟨by omega, by omega⟩ (fun _ => ?_) (fun _ => ?_) <;> try (exfalso; omega)) | (refine wq_gt ⟨by omega, by omega⟩ ⟨by omega, by omega⟩ (fun _ => ?_) (fun _ => ?_) <;> try (exfalso; omega)) | (refine wq_le ⟨by omega, by omega⟩ ⟨by omega, by omega⟩ (fun _ => ?_) (fun _ => ?_) <;> try (exfalso; omega)) | (refine wq_ifeq ⟨by omega, by omega⟩ (fun _ => ?_) (fun _ => ?_) <;> try (exfalso; omega)) | (refine wq_ifne ⟨by omega, by omega⟩ (fun _ => ?_) (fun _ => ?_) <;> try (exfalso; omega)) | (refine wq_iflt ⟨by omega, by omega⟩ (fun _ => ?_) (fun _ => ?_) <;> try (exfalso; omega)) | (refine wq_ifge ⟨by omega, by omega⟩ (fun _ => ?_) (fun _ => ?_) <;> try (exfalso; omega)) | (refine wq_ifgt ⟨by omega, by omega⟩ (fun _ => ?_) (fun _ => ?_) <;> try (exfalso; omega)) | (refine wq_ifle ⟨by omega, by omega⟩ (fun _ => ?_) (fun _ => ?_) <;> try (exfalso; omega)) | refine wq_r rfl rfl rfl rfl rfl rfl ?_)
        refine wf rfl (wq_cv rfl rfl rfl h1 (hca.mono ?_))
        rintro v M1 ⟨rfl, rfl⟩
        repeat' (refine wf rfl ?_; first | refine wq_iadd ?_ | refine wq_isub ?_ | refine wq_imul ?_ | refine wq_iinc rfl ?_ | refine wq_goto ?_ | refine wq_k rfl ?_ | refine wq_b rfl rfl ?_ | refine wq_getf (by assumption) rfl ?_ | refine wq_alen (by assumption) rfl ?_ | (refine wq_eq ⟨by omega, by omega⟩ ⟨by omega, by omega⟩ (fun _ => ?_) (fun _ => ?_) <;> try (exfalso; omega)) | (refine wq_ne ⟨by omega, by omega⟩ ⟨by omega, by omega⟩ (fun _ => ?_) (fun _ => ?_) <;> try (exfalso; omega)) | (refine wq_lt ⟨by omega, by omega⟩ ⟨by omega, by omega⟩ (fun _ => ?_) (fun _ => ?_) <;> try (exfalso; omega)) | (refine wq_ge ⟨by omega, by omega⟩ ⟨by omega, by omega⟩ (fun _ => ?_) (fun _ => ?_) <;> try (exfalso; omega)) | (refine wq_gt ⟨by omega, by omega⟩ ⟨by omega, by omega⟩ (fun _ => ?_) (fun _ => ?_) <;> try (exfalso; omega)) | (refine wq_le ⟨by omega, by omega⟩ ⟨by omega, by omega⟩ (fun _ => ?_) (fun _ => ?_) <;> try (exfalso; omega)) | (refine wq_ifeq ⟨by omega, by omega⟩ (fun _ => ?_) (fun _ => ?_) <;> try (exfalso; omega)) | (refine wq_ifne ⟨by omega, by omega⟩ (fun _ => ?_) (fun _ => ?_) <;> try (exfalso; omega)) | (refine wq_iflt ⟨by omega, by omega⟩ (fun _ => ?_) (fun _ => ?_) <;> try (exfalso; omega)) | (refine wq_ifge ⟨by omega, by omega⟩ (fun _ => ?_) (fun _ => ?_) <;> try (exfalso; omega)) | (refine wq_ifgt ⟨by omega, by omega⟩ (fun _ => ?_) (fun _ => ?_) <;> try (exfalso; omega)) | (refine wq_ifle ⟨by omega, by omega⟩ (fun _ => ?_) (fun _ => ?_) <;> try (exfalso; omega)) | refine wq_r rfl rfl rfl rfl rfl rfl ?_)
        refine wf rfl (wq_cv rfl rfl rfl h1 (hset.mono ?_))
        rintro v M2 ⟨rfl, hr, f2⟩
        have hge : 0 ≤ rat ys p := by
          have hg := List.getElem?_eq_getElem (l := ys) (i := p.toNat) (by omega)
          rw [rat_in (by omega) hg]
          exact (i7 _ (List.getElem_mem (l := ys) (n := p.toNat) (by omega))).1
        repeat' (first | (refine Wp.sub (ih _ _ _ ?_) ⟨rfl, rfl, rfl, rfl, rfl, rfl, trivial⟩ rfl) | (refine wf rfl ?_; first | refine wq_iadd ?_ | refine wq_isub ?_ | refine wq_imul ?_ | refine wq_iinc rfl ?_ | refine wq_goto ?_ | refine wq_k rfl ?_ | refine wq_b rfl rfl ?_ | refine wq_getf (by assumption) rfl ?_ | refine wq_alen (by assumption) rfl ?_ | fail | (refine wq_eq ⟨by omega, by omega⟩ ⟨by omega, by omega⟩ (fun _ => ?_) (fun _ => ?_) <;> try (exfalso; omega)) | (refine wq_ne ⟨by omega, by omega⟩ ⟨by omega, by omega⟩ (fun _ => ?_) (fun _ => ?_) <;> try (exfalso; omega)) | (refine wq_lt ⟨by omega, by omega⟩ ⟨by omega, by omega⟩ (fun _ => ?_) (fun _ => ?_) <;> try (exfalso; omega)) | (refine wq_ge ⟨by omega, by omega⟩ ⟨by omega, by omega⟩ (fun _ => ?_) (fun _ => ?_) <;> try (exfalso; omega)) | (refine wq_gt ⟨by omega, by omega⟩ ⟨by omega, by omega⟩ (fun _ => ?_) (fun _ => ?_) <;> try (exfalso; omega)) | (refine wq_le ⟨by omega, by omega⟩ ⟨by omega, by omega⟩ (fun _ => ?_) (fun _ => ?_) <;> try (exfalso; omega)) | (refine wq_ifeq ⟨by omega, by omega⟩ (fun _ => ?_) (fun _ => ?_) <;> try (exfalso; omega)) | (refine wq_ifne ⟨by omega, by omega⟩ (fun _ => ?_) (fun _ => ?_) <;> try (exfalso; omega)) | (refine wq_iflt ⟨by omega, by omega⟩ (fun _ => ?_) (fun _ => ?_) <;> try (exfalso; omega)) | (refine wq_ifge ⟨by omega, by omega⟩ (fun _ => ?_) (fun _ => ?_) <;> try (exfalso; omega)) | (refine wq_ifgt ⟨by omega, by omega⟩ (fun _ => ?_) (fun _ => ?_) <;> try (exfalso; omega)) | (refine wq_ifle ⟨by omega, by omega⟩ (fun _ => ?_) (fun _ => ?_) <;> try (exfalso; omega)) | refine wq_r rfl rfl rfl rfl rfl rfl ?_))
        exact fin (rat ys p) (p + 1) M2 (by omega) (by omega) (by omega) (by omega) (by rw [hz, e8 p (by omega)]) hr f2
theorem c_Row_foldPair {M : PM} {a : Nat} {xs : List Int} {f s c : Int} (hf : inR f) (hs : inR s) (hc : 0 ≤ c ∧ c < 34) (hb : SB xs) (h : Rw M a xs) : Wm 78 [.ref a, .int (I f), .int (I s), .int (I c)] M (fun v M' => v = none ∧ Rw M' a (fold2 f s c xs) ∧ Fr (fun q => q = a ∨ q = a + 1) M M') := by
  have hl := h.len
  refine wm_in (lv := _) rfl rfl rfl ?_
  repeat' (first | (refine Wp.sub (lp_fold hf hs hc hb 100 _ _ _ ?_) ⟨rfl, rfl, rfl, rfl, rfl, rfl, trivial⟩ rfl) | (refine wf rfl ?_; first | refine wq_iadd ?_ | refine wq_isub ?_ | refine wq_imul ?_ | refine wq_iinc rfl ?_ | refine wq_goto ?_ | refine wq_k rfl ?_ | refine wq_b rfl rfl ?_ | refine wq_getf (by assumption) rfl ?_ | refine wq_alen (by assumption) rfl ?_ | fail | (refine wq_eq ⟨by omega, by omega⟩ ⟨by omega, by omega⟩ (fun _ => ?_) (fun _ => ?_) <;> try (exfalso; omega)) | (refine wq_ne ⟨by omega, by omega⟩ ⟨by omega, by omega⟩ (fun _ => ?_) (fun _ => ?_) <;> try (exfalso; omega)) | (refine wq_lt ⟨by omega, by omega⟩ ⟨by omega, by omega⟩ (fun _ => ?_) (fun _ => ?_) <;> try (exfalso; omega)) | (refine wq_ge ⟨by omega, by omega⟩ ⟨by omega, by omega⟩ (fun _ => ?_) (fun _ => ?_) <;> try (exfalso; omega)) | (refine wq_gt ⟨by omega, by omega⟩ ⟨by omega, by omega⟩ (fun _ => ?_) (fun _ => ?_) <;> try (exfalso; omega)) | (refine wq_le ⟨by omega, by omega⟩ ⟨by omega, by omega⟩ (fun _ => ?_) (fun _ => ?_) <;> try (exfalso; omega)) | (refine wq_ifeq ⟨by omega, by omega⟩ (fun _ => ?_) (fun _ => ?_) <;> try (exfalso; omega)) | (refine wq_ifne ⟨by omega, by omega⟩ (fun _ => ?_) (fun _ => ?_) <;> try (exfalso; omega)) | (refine wq_iflt ⟨by omega, by omega⟩ (fun _ => ?_) (fun _ => ?_) <;> try (exfalso; omega)) | (refine wq_ifge ⟨by omega, by omega⟩ (fun _ => ?_) (fun _ => ?_) <;> try (exfalso; omega)) | (refine wq_ifgt ⟨by omega, by omega⟩ (fun _ => ?_) (fun _ => ?_) <;> try (exfalso; omega)) | (refine wq_ifle ⟨by omega, by omega⟩ (fun _ => ?_) (fun _ => ?_) <;> try (exfalso; omega)) | refine wq_r rfl rfl rfl rfl rfl rfl ?_))
  exact ⟨by omega, by omega, by omega, by omega, Fr.rf, xs, h, rfl, hb, fun _ _ => rfl, by simp⟩
end
section
def cntE (s : Int) : List Int → Nat
  | [] => 0
  | x :: r => (if x = s then 1 else 0) + cntE s r
theorem cntE_le (s : Int) : ∀ xs : List Int, cntE s xs ≤ xs.length
  | [] => Nat.le_refl _
  | x :: r => by
    have ih := cntE_le s r
    rw [cntE, List.length_cons]
    split <;> omega
theorem lp_canU {M : PM} {a b : Nat} {xs fl : List Int} {sym T : Int} (hT : -1000 ≤ T ∧ T ≤ 100000) (hs : inR sym) (hb : SB xs) (h : Rw M a xs) (h' : Rw M b fl) (n : Nat) : ∀ (z p : Int), (0 ≤ p ∧ p ≤ xs.length ∧ xs.length - p < n ∧ z + (cntE sym (xs.drop p.toNat) : Int) * ((fl.length : Int) - 1) = T) → Wp k_X6_canUnroll (8, [(0, .ref a), (1, .int (I sym)), (2, .ref b), (3, .int (I z)), (4, .int (I p))], [], M) (fun v M' => v = some (.int (I (if T ≤ 80 then 1 else 0))) ∧ M' = M) := by
  have hl := h.len
  have hl' := h'.len
  obtain ⟨hs1, hs2⟩ := hs
  induction n with
  | zero => intro z p hi; exfalso; omega
  | succ n ih =>
    intro z p hi
    obtain ⟨i1, i2, i3, i4⟩ := hi
    have hc := c_Row_at (p := p) ⟨by omega, by omega⟩ h
    have bd := rat_bd hb p
    obtain ⟨g, h1, h2, h3, h4⟩ := id h
    obtain ⟨g', k1, k2, k3, k4⟩ := id h'
    by_cases hpl : p < xs.length
    · have e1 : ((p.toNat : Nat) : Int) = p := by omega
      have hd := drop1 (xs := xs) (p := p.toNat) (by omega)
      rw [e1] at hd
      rw [hd, cntE] at i4
      repeat' (refine wf rfl ?_; first | refine wq_iadd ?_ | refine wq_isub ?_ | refine wq_imul ?_ | refine wq_iinc rfl ?_ | refine wq_goto ?_ | refine wq_k rfl ?_ | refine wq_b rfl rfl ?_ | refine wq_getf (by assumption) rfl ?_ | refine wq_alen (by assumption) rfl ?_ | (refine wq_eq ⟨by omega, by omega⟩ ⟨by omega, by omega⟩ (fun _ => ?_) (fun _ => ?_) <;> try (exfalso; omega)) | (refine wq_ne ⟨by omega, by omega⟩ ⟨by omega, by omega⟩ (fun _ => ?_) (fun _ => ?_) <;> try (exfalso; omega)) | (refine wq_lt ⟨by omega, by omega⟩ ⟨by omega, by omega⟩ (fun _ => ?_) (fun _ => ?_) <;> try (exfalso; omega)) | (refine wq_ge ⟨by omega, by omega⟩ ⟨by omega, by omega⟩ (fun _ => ?_) (fun _ => ?_) <;> try (exfalso; omega)) | (refine wq_gt ⟨by omega, by omega⟩ ⟨by omega, by omega⟩ (fun _ => ?_) (fun _ => ?_) <;> try (exfalso; omega)) | (refine wq_le ⟨by omega, by omega⟩ ⟨by omega, by omega⟩ (fun _ => ?_) (fun _ => ?_) <;> try (exfalso; omega)) | (refine wq_ifeq ⟨by omega, by omega⟩ (fun _ => ?_) (fun _ => ?_) <;> try (exfalso; omega)) | (refine wq_ifne ⟨by omega, by omega⟩ (fun _ => ?_) (fun _ => ?_) <;> try (exfalso; omega)) | (refine wq_iflt ⟨by omega, by omega⟩ (fun _ => ?_) (fun _ => ?_) <;> try (exfalso; omega)) | (refine wq_ifge ⟨by omega, by omega⟩ (fun _ => ?_) (fun _ => ?_) <;> try (exfalso; omega)) | (refine wq_ifgt ⟨by omega, by omega⟩ (fun _ => ?_) (fun _ => ?_) <;> try (exfalso; omega)) | (refine wq_ifle ⟨by omega, by omega⟩ (fun _ => ?_) (fun _ => ?_) <;> try (exfalso; omega)) | refine wq_r rfl rfl rfl rfl rfl rfl ?_)
      refine wf rfl (wq_cv rfl rfl rfl h1 (hc.mono ?_))
      rintro v M ⟨rfl, rfl⟩
      repeat' (first | (refine Wp.sub (ih _ _ ?_) ⟨rfl, rfl, rfl, rfl, rfl, trivial⟩ rfl) | (refine wf rfl ?_; first | refine wq_iadd ?_ | refine wq_isub ?_ | refine wq_imul ?_ | refine wq_iinc rfl ?_ | refine wq_goto ?_ | refine wq_k rfl ?_ | refine wq_b rfl rfl ?_ | refine wq_getf (by assumption) rfl ?_ | refine wq_alen (by assumption) rfl ?_ | fail | (refine wq_eq ⟨by omega, by omega⟩ ⟨by omega, by omega⟩ (fun _ => ?_) (fun _ => ?_) <;> try (exfalso; omega)) | (refine wq_ne ⟨by omega, by omega⟩ ⟨by omega, by omega⟩ (fun _ => ?_) (fun _ => ?_) <;> try (exfalso; omega)) | (refine wq_lt ⟨by omega, by omega⟩ ⟨by omega, by omega⟩ (fun _ => ?_) (fun _ => ?_) <;> try (exfalso; omega)) | (refine wq_ge ⟨by omega, by omega⟩ ⟨by omega, by omega⟩ (fun _ => ?_) (fun _ => ?_) <;> try (exfalso; omega)) | (refine wq_gt ⟨by omega, by omega⟩ ⟨by omega, by omega⟩ (fun _ => ?_) (fun _ => ?_) <;> try (exfalso; omega)) | (refine wq_le ⟨by omega, by omega⟩ ⟨by omega, by omega⟩ (fun _ => ?_) (fun _ => ?_) <;> try (exfalso; omega)) | (refine wq_ifeq ⟨by omega, by omega⟩ (fun _ => ?_) (fun _ => ?_) <;> try (exfalso; omega)) | (refine wq_ifne ⟨by omega, by omega⟩ (fun _ => ?_) (fun _ => ?_) <;> try (exfalso; omega)) | (refine wq_iflt ⟨by omega, by omega⟩ (fun _ => ?_) (fun _ => ?_) <;> try (exfalso; omega)) | (refine wq_ifge ⟨by omega, by omega⟩ (fun _ => ?_) (fun _ => ?_) <;> try (exfalso; omega)) | (refine wq_ifgt ⟨by omega, by omega⟩ (fun _ => ?_) (fun _ => ?_) <;> try (exfalso; omega)) | (refine wq_ifle ⟨by omega, by omega⟩ (fun _ => ?_) (fun _ => ?_) <;> try (exfalso; omega)) | refine wq_r rfl rfl rfl rfl rfl rfl ?_))
      · refine ⟨by omega, by omega, by omega, ?_⟩
        rw [show (p + 1).toNat = p.toNat + 1 by omega]
        rw [if_neg (by assumption)] at i4
        rw [show ((0 + cntE sym (xs.drop (p.toNat + 1)) : Nat) : Int) = (cntE sym (xs.drop (p.toNat + 1)) : Int) by omega] at i4
        exact i4
      · refine ⟨by omega, by omega, by omega, ?_⟩
        rw [show (p + 1).toNat = p.toNat + 1 by omega]
        rw [if_pos (by assumption)] at i4
        rw [show ((1 + cntE sym (xs.drop (p.toNat + 1)) : Nat) : Int) = (cntE sym (xs.drop (p.toNat + 1)) : Int) + 1 by omega, Int.add_mul, Int.one_mul] at i4
        omega
    · rw [List.drop_eq_nil_of_le (by omega), cntE] at i4
      have i4 : z = T := by omega
      subst i4
      repeat' (refine wf rfl ?_; first | refine wq_iadd ?_ | refine wq_isub ?_ | refine wq_imul ?_ | refine wq_iinc rfl ?_ | refine wq_goto ?_ | refine wq_k rfl ?_ | refine wq_b rfl rfl ?_ | refine wq_getf (by assumption) rfl ?_ | refine wq_alen (by assumption) rfl ?_ | (refine wq_eq ⟨by omega, by omega⟩ ⟨by omega, by omega⟩ (fun _ => ?_) (fun _ => ?_) <;> try (exfalso; omega)) | (refine wq_ne ⟨by omega, by omega⟩ ⟨by omega, by omega⟩ (fun _ => ?_) (fun _ => ?_) <;> try (exfalso; omega)) | (refine wq_lt ⟨by omega, by omega⟩ ⟨by omega, by omega⟩ (fun _ => ?_) (fun _ => ?_) <;> try (exfalso; omega)) | (refine wq_ge ⟨by omega, by omega⟩ ⟨by omega, by omega⟩ (fun _ => ?_) (fun _ => ?_) <;> try (exfalso; omega)) | (refine wq_gt ⟨by omega, by omega⟩ ⟨by omega, by omega⟩ (fun _ => ?_) (fun _ => ?_) <;> try (exfalso; omega)) | (refine wq_le ⟨by omega, by omega⟩ ⟨by omega, by omega⟩ (fun _ => ?_) (fun _ => ?_) <;> try (exfalso; omega)) | (refine wq_ifeq ⟨by omega, by omega⟩ (fun _ => ?_) (fun _ => ?_) <;> try (exfalso; omega)) | (refine wq_ifne ⟨by omega, by omega⟩ (fun _ => ?_) (fun _ => ?_) <;> try (exfalso; omega)) | (refine wq_iflt ⟨by omega, by omega⟩ (fun _ => ?_) (fun _ => ?_) <;> try (exfalso; omega)) | (refine wq_ifge ⟨by omega, by omega⟩ (fun _ => ?_) (fun _ => ?_) <;> try (exfalso; omega)) | (refine wq_ifgt ⟨by omega, by omega⟩ (fun _ => ?_) (fun _ => ?_) <;> try (exfalso; omega)) | (refine wq_ifle ⟨by omega, by omega⟩ (fun _ => ?_) (fun _ => ?_) <;> try (exfalso; omega)) | refine wq_r rfl rfl rfl rfl rfl rfl ?_)
      · exact ⟨by rw [if_neg (by omega)], rfl⟩
      · exact ⟨by rw [if_pos (by omega)], rfl⟩
theorem c_Row_canUnroll {M : PM} {a b : Nat} {xs fl : List Int} {sym : Int} (hs : inR sym) (hb : SB xs) (h : Rw M a xs) (h' : Rw M b fl) : Wm 79 [.ref a, .int (I sym), .ref b] M (fun v M' => v = some (.int (I (if (xs.length : Int) + (cntE sym xs : Int) * ((fl.length : Int) - 1) ≤ 80 then 1 else 0))) ∧ M' = M) := by
  have hl := h.len
  have hl' := h'.len
  have hce := cntE_le sym xs
  have hT : -1000 ≤ (xs.length : Int) + (cntE sym xs : Int) * ((fl.length : Int) - 1) ∧ (xs.length : Int) + (cntE sym xs : Int) * ((fl.length : Int) - 1) ≤ 100000 := by
    have q1 : cntE sym xs * fl.length ≤ 80 * 80 := Nat.mul_le_mul (by omega) hl'
    have q2 : (cntE sym xs : Int) * ((fl.length : Int) - 1) = ((cntE sym xs * fl.length : Nat) : Int) - (cntE sym xs : Int) := by
      rw [Int.mul_sub, Int.mul_one, Int.natCast_mul]
    omega
  obtain ⟨g, h1, h2, h3, h4⟩ := id h
  refine wm_in (lv := _) rfl rfl rfl ?_
  repeat' (first | (refine Wp.sub (lp_canU hT hs hb h h' 100 _ _ ?_) ⟨rfl, rfl, rfl, rfl, rfl, trivial⟩ rfl) | (refine wf rfl ?_; first | refine wq_iadd ?_ | refine wq_isub ?_ | refine wq_imul ?_ | refine wq_iinc rfl ?_ | refine wq_goto ?_ | refine wq_k rfl ?_ | refine wq_b rfl rfl ?_ | refine wq_getf (by assumption) rfl ?_ | refine wq_alen (by assumption) rfl ?_ | fail | (refine wq_eq ⟨by omega, by omega⟩ ⟨by omega, by omega⟩ (fun _ => ?_) (fun _ => ?_) <;> try (exfalso; omega)) | (refine wq_ne ⟨by omega, by omega⟩ ⟨by omega, by omega⟩ (fun _ => ?_) (fun _ => ?_) <;> try (exfalso; omega)) | (refine wq_lt ⟨by omega, by omega⟩ ⟨by omega, by omega⟩ (fun _ => ?_) (fun _ => ?_) <;> try (exfalso; omega)) | (refine wq_ge ⟨by omega, by omega⟩ ⟨by omega, by omega⟩ (fun _ => ?_) (fun _ => ?_) <;> try (exfalso; omega)) | (refine wq_gt ⟨by omega, by omega⟩ ⟨by omega, by omega⟩ (fun _ => ?_) (fun _ => ?_) <;> try (exfalso; omega)) | (refine wq_le ⟨by omega, by omega⟩ ⟨by omega, by omega⟩ (fun _ => ?_) (fun _ => ?_) <;> try (exfalso; omega)) | (refine wq_ifeq ⟨by omega, by omega⟩ (fun _ => ?_) (fun _ => ?_) <;> try (exfalso; omega)) | (refine wq_ifne ⟨by omega, by omega⟩ (fun _ => ?_) (fun _ => ?_) <;> try (exfalso; omega)) | (refine wq_iflt ⟨by omega, by omega⟩ (fun _ => ?_) (fun _ => ?_) <;> try (exfalso; omega)) | (refine wq_ifge ⟨by omega, by omega⟩ (fun _ => ?_) (fun _ => ?_) <;> try (exfalso; omega)) | (refine wq_ifgt ⟨by omega, by omega⟩ (fun _ => ?_) (fun _ => ?_) <;> try (exfalso; omega)) | (refine wq_ifle ⟨by omega, by omega⟩ (fun _ => ?_) (fun _ => ?_) <;> try (exfalso; omega)) | refine wq_r rfl rfl rfl rfl rfl rfl ?_))
  exact ⟨by omega, by omega, by omega, by simp⟩
def unr1 (sym : Int) (fl : List Int) (x : Int) : List Int := if x = sym then fl else if sym < x then [x - 1] else [x]
def unr (sym : Int) (fl xs : List Int) : List Int := xs.flatMap (unr1 sym fl)
theorem unr1_len {sym x : Int} {fl : List Int} (hf : 1 ≤ fl.length) : 1 ≤ (unr1 sym fl x).length := by
  unfold unr1
  split
  · exact hf
  · split <;> exact Nat.le_refl _
theorem unr_len {sym : Int} {fl : List Int} (hf : 1 ≤ fl.length) : ∀ xs : List Int, xs.length ≤ (unr sym fl xs).length
  | [] => Nat.zero_le _
  | x :: r => by
    have ih := unr_len (sym := sym) hf r
    have h1 := unr1_len (sym := sym) (x := x) hf
    unfold unr at ih ⊢
    rw [List.flatMap_cons, List.length_append, List.length_cons]
    omega
theorem unr_split {sym : Int} {fl xs : List Int} (hf : 1 ≤ fl.length) {k : Nat} (hk : k ≤ xs.length) : k + (unr sym fl (xs.drop k)).length ≤ (unr sym fl xs).length := by
  have h1 := unr_len (sym := sym) hf (xs.take k)
  have h2 : (unr sym fl xs).length = (unr sym fl (xs.take k)).length + (unr sym fl (xs.drop k)).length := by
    rw [← List.length_append]
    unfold unr
    rw [← List.flatMap_append, List.take_append_drop]
  rw [List.length_take] at h1
  omega
theorem unr_drop {sym : Int} {fl xs : List Int} {p : Nat} (hp : p < xs.length) : unr sym fl (xs.drop p) = unr1 sym fl (rat xs p) ++ unr sym fl (xs.drop (p + 1)) := by
  rw [drop1 hp]
  unfold unr
  rw [List.flatMap_cons]
theorem take_rat {xs : List Int} {p : Int} (h0 : 0 ≤ p) (h : p < xs.length) : xs.take p.toNat ++ [rat xs p] = xs.take (p.toNat + 1) := by
  have hg := List.getElem?_eq_getElem (l := xs) (i := p.toNat) (by omega)
  rw [List.take_add_one, hg, rat_in h0 hg]
  rfl
theorem lp_unr {M : PM} {a b : Nat} {xs fl : List Int} {sym : Int} (hab : a ≠ b ∧ a + 1 ≠ b ∧ b + 1 ≠ a) (hs : 0 ≤ sym ∧ sym < 34) (hf : 1 ≤ fl.length) (hu : (unr sym fl xs).length ≤ 80) (hb : SB xs) (n : Nat) : ∀ (p : Int) (M1 : PM), (-1 ≤ p ∧ p < xs.length ∧ p + 1 < n ∧ Fr (fun q => q = a ∨ q = a + 1) M M1 ∧ Rw M1 b fl ∧ Rw M1 a (xs.take (p + 1).toNat ++ unr sym fl (xs.drop (p + 1).toNat))) →
    Wp k_X6_unrollSymbol (7, [(0, .ref a), (1, .int (I sym)), (2, .ref b), (3, .int (I p))], [], M1) (fun v M' => v = none ∧ Rw M' a (unr sym fl xs) ∧ Fr (fun q => q = a ∨ q = a + 1) M M') := by
  induction n with
  | zero => intro p M1 hi; exfalso; omega
  | succ n ih =>
    intro p M1 hi
    obtain ⟨i1, i2, i3, i4, i5, i6⟩ := hi
    have hl := unr_len (sym := sym) hf xs
    by_cases hp : 0 ≤ p
    · have e1 : ((p.toNat : Nat) : Int) = p := by omega
      rw [show (p + 1).toNat = p.toNat + 1 by omega] at i6
      have hsp := unr_split (sym := sym) hf (xs := xs) (k := p.toNat) (by omega)
      have hdr := unr_drop (sym := sym) (fl := fl) (xs := xs) (p := p.toNat) (by omega)
      rw [e1] at hdr
      generalize hU : unr sym fl (xs.drop (p.toNat + 1)) = U at i6 hdr
      have hyl : (xs.take (p.toNat + 1) ++ U).length = p.toNat + 1 + U.length := by rw [List.length_append, List.length_take]; omega
      have htk : (xs.take (p.toNat + 1) ++ U).take p.toNat = xs.take p.toNat := by
        rw [List.take_append_of_le_length (by rw [List.length_take]; omega), List.take_take, Nat.min_eq_left (by omega)]
      have hdp : (xs.take (p.toNat + 1) ++ U).drop (p.toNat + 1) = U := by
        rw [List.drop_append_of_le_length (by rw [List.length_take]; omega), List.drop_eq_nil_of_le (by rw [List.length_take]; omega), List.nil_append]
      have hrt : rat (xs.take (p.toNat + 1) ++ U) p = rat xs p := by
        unfold rat
        rw [if_neg (by omega), if_neg (by omega), List.getD_eq_getElem?_getD, List.getD_eq_getElem?_getD, List.getElem?_append_left (by rw [List.length_take]; omega), List.getElem?_take_of_lt (by omega)]
      generalize hY : xs.take (p.toNat + 1) ++ U = ys at i6 hyl htk hdp hrt
      have hl2 := i6.len
      have hca := c_Row_at (p := p) ⟨by omega, by omega⟩ i6
      rw [hrt] at hca
      have bd := rat_bd hb p
      have fin : ∀ M2 : PM, Fr (fun q => q = a ∨ q = a + 1) M1 M2 → Rw M2 b fl → Rw M2 a (xs.take p.toNat ++ unr sym fl (xs.drop p.toNat)) → (-1 ≤ p + -1 ∧ p + -1 < xs.length ∧ p + -1 + 1 < n ∧ Fr (fun q => q = a ∨ q = a + 1) M M2 ∧ Rw M2 b fl ∧ Rw M2 a (xs.take (p + -1 + 1).toNat ++ unr sym fl (xs.drop (p + -1 + 1).toNat))) := by
        intro M2 f2 r2 r3
        rw [show p + -1 + 1 = p by omega]
        exact ⟨by omega, by omega, by omega, i4.tr f2, r2, r3⟩
      obtain ⟨g, h1, h2, h3, h4⟩ := id i6
      repeat' (refine wf rfl ?_; first | refine wq_iadd ?_ | refine wq_isub ?_ | refine wq_imul ?_ | refine wq_iinc rfl ?_ | refine wq_goto ?_ | refine wq_k rfl ?_ | refine wq_b rfl rfl ?_ | refine wq_getf (by assumption) rfl ?_ | refine wq_alen (by assumption) rfl ?_ | (refine wq_eq ⟨by omega, by omega⟩ ⟨by omega, by omega⟩ (fun _ => ?_) (fun _ => ?_) <;> try (exfalso; omega)) | (refine wq_ne ⟨by omega, by omega⟩ ⟨by omega, by omega⟩ (fun _ => ?_) (fun _ => ?_) <;> try (exfalso; omega)) | (refine wq_lt ⟨by omega, by omega⟩ ⟨by omega, by omega⟩ (fun _ => ?_) (fun _ => ?_) <;> try (exfalso; omega)) | (refine wq_ge ⟨by omega, by omega⟩ ⟨by omega, by omega⟩ (fun _ => ?_) (fun _ => ?_) <;> try (exfalso; omega)) | (refine wq_gt ⟨by omega, by omega⟩ ⟨by omega, by omega⟩ (fun _ => ?_) (fun _ => ?_) <;> try (exfalso; omega)) | (refine wq_le ⟨by omega, by omega⟩ ⟨by omega, by omega⟩ (fun _ => ?_) (fun _ => ?_) <;> try (exfalso; omega)) | (refine wq_ifeq ⟨by omega, by omega⟩ (fun _ => ?_) (fun _ => ?_) <;> try (exfalso; omega)) | (refine wq_ifne ⟨by omega, by omega⟩ (fun _ => ?_) (fun _ => ?_) <;> try (exfalso; omega)) | (refine wq_iflt ⟨by omega, by omega⟩ (fun _ => ?_) (fun _ => ?_) <;> try (exfalso; omega)) | (refine wq_ifge ⟨by omega, by omega⟩ (fun _ => ?_) (fun _ => ?_) <;> try (exfalso; omega)) | (refine wq_ifgt ⟨by omega, by omega⟩ (fun _ => ?_) (fun _ => ?_) <;> try (exfalso; omega)) | (refine wq_ifle ⟨by omega, by omega⟩ (fun _ => ?_) (fun _ => ?_) <;> try (exfalso; omega)) | refine wq_r rfl rfl rfl rfl rfl rfl ?_)
      refine wf rfl (wq_cv rfl rfl rfl h1 (hca.mono ?_))
      rintro v M1 ⟨rfl, rfl⟩
      refine wf rfl (wq_k rfl ?_)
      refine wf rfl (wq_ne ⟨by omega, by omega⟩ ⟨by omega, by omega⟩ (fun hne => ?_) (fun heq => ?_))
      · repeat' (refine wf rfl ?_; first | refine wq_iadd ?_ | refine wq_isub ?_ | refine wq_imul ?_ | refine wq_iinc rfl ?_ | refine wq_goto ?_ | refine wq_k rfl ?_ | refine wq_b rfl rfl ?_ | refine wq_getf (by assumption) rfl ?_ | refine wq_alen (by assumption) rfl ?_ | (refine wq_eq ⟨by omega, by omega⟩ ⟨by omega, by omega⟩ (fun _ => ?_) (fun _ => ?_) <;> try (exfalso; omega)) | (refine wq_ne ⟨by omega, by omega⟩ ⟨by omega, by omega⟩ (fun _ => ?_) (fun _ => ?_) <;> try (exfalso; omega)) | (refine wq_lt ⟨by omega, by omega⟩ ⟨by omega, by omega⟩ (fun _ => ?_) (fun _ => ?_) <;> try (exfalso; omega)) | (refine wq_ge ⟨by omega, by omega⟩ ⟨by omega, by omega⟩ (fun _ => ?_) (fun _ => ?_) <;> try (exfalso; omega)) | (refine wq_gt ⟨by omega, by omega⟩ ⟨by omega, by omega⟩ (fun _ => ?_) (fun _ => ?_) <;> try (exfalso; omega)) | (refine wq_le ⟨by omega, by omega⟩ ⟨by omega, by omega⟩ (fun _ => ?_) (fun _ => ?_) <;> try (exfalso; omega)) | (refine wq_ifeq ⟨by omega, by omega⟩ (fun _ => ?_) (fun _ => ?_) <;> try (exfalso; omega)) | (refine wq_ifne ⟨by omega, by omega⟩ (fun _ => ?_) (fun _ => ?_) <;> try (exfalso; omega)) | (refine wq_iflt ⟨by omega, by omega⟩ (fun _ => ?_) (fun _ => ?_) <;> try (exfalso; omega)) | (refine wq_ifge ⟨by omega, by omega⟩ (fun _ => ?_) (fun _ => ?_) <;> try (exfalso; omega)) | (refine wq_ifgt ⟨by omega, by omega⟩ (fun _ => ?_) (fun _ => ?_) <;> try (exfalso; omega)) | (refine wq_ifle ⟨by omega, by omega⟩ (fun _ => ?_) (fun _ => ?_) <;> try (exfalso; omega)) | refine wq_r rfl rfl rfl rfl rfl rfl ?_)
        refine wf rfl (wq_cv rfl rfl rfl h1 (hca.mono ?_))
        rintro v M1 ⟨rfl, rfl⟩
        refine wf rfl (wq_k rfl ?_)
        refine wf rfl (wq_le ⟨by omega, by omega⟩ ⟨by omega, by omega⟩ (fun hle => ?_) (fun hgt => ?_))
        · repeat' (first | (refine Wp.sub (ih _ _ ?_) ⟨rfl, rfl, rfl, rfl, trivial⟩ rfl) | (refine wf rfl ?_; first | refine wq_iadd ?_ | refine wq_isub ?_ | refine wq_imul ?_ | refine wq_iinc rfl ?_ | refine wq_goto ?_ | refine wq_k rfl ?_ | refine wq_b rfl rfl ?_ | refine wq_getf (by assumption) rfl ?_ | refine wq_alen (by assumption) rfl ?_ | fail | (refine wq_eq ⟨by omega, by omega⟩ ⟨by omega, by omega⟩ (fun _ => ?_) (fun _ => ?_) <;> try (exfalso; omega)) | (refine wq_ne ⟨by omega, by omega⟩ ⟨by omega, by omega⟩ (fun _ => ?_) (fun _ => ?_) <;> try (exfalso; omega)) | (refine wq_lt ⟨by omega, by omega⟩ ⟨by omega, by omega⟩ (fun _ => ?_) (fun _ => ?_) <;> try (exfalso; omega)) | (refine wq_ge ⟨by omega, by omega⟩ ⟨by omega, by omega⟩ (fun _ => ?_) (fun _ => ?_) <;> try (exfalso; omega)) | (refine wq_gt ⟨by omega, by omega⟩ ⟨by omega, by omega⟩ (fun _ => ?_) (fun _ => ?_) <;> try (exfalso; omega)) | (refine wq_le ⟨by omega, by omega⟩ ⟨by omega, by omega⟩ (fun _ => ?_) (fun _ => ?_) <;> try (exfalso; omega)) | (refine wq_ifeq ⟨by omega, by omega⟩ (fun _ => ?_) (fun _ => ?_) <;> try (exfalso; omega)) | (refine wq_ifne ⟨by omega, by omega⟩ (fun _ => ?_) (fun _ => ?_) <;> try (exfalso; omega)) | (refine wq_iflt ⟨by omega, by omega⟩ (fun _ => ?_) (fun _ => ?_) <;> try (exfalso; omega)) | (refine wq_ifge ⟨by omega, by omega⟩ (fun _ => ?_) (fun _ => ?_) <;> try (exfalso; omega)) | (refine wq_ifgt ⟨by omega, by omega⟩ (fun _ => ?_) (fun _ => ?_) <;> try (exfalso; omega)) | (refine wq_ifle ⟨by omega, by omega⟩ (fun _ => ?_) (fun _ => ?_) <;> try (exfalso; omega)) | refine wq_r rfl rfl rfl rfl rfl rfl ?_))
          refine fin _ Fr.rf i5 ?_
          rw [hdr]
          unfold unr1
          rw [if_neg hne, if_neg (by omega), ← List.append_assoc, take_rat hp (by omega)]
          rw [hY]
          exact i6
        · have hset := c_Row_set (p := p) (s := rat xs p - 1) ⟨by omega, by omega⟩ i6
          repeat' (refine wf rfl ?_; first | refine wq_iadd ?_ | refine wq_isub ?_ | refine wq_imul ?_ | refine wq_iinc rfl ?_ | refine wq_goto ?_ | refine wq_k rfl ?_ | refine wq_b rfl rfl ?_ | refine wq_getf (by assumption) rfl ?_ | refine wq_alen (by assumption) rfl ?_ | (refine wq_eq ⟨by omega, by omega⟩ ⟨by omega, by omega⟩ (fun _ => ?_) (fun _ => ?_) <;> try (exfalso; omega)) | (refine wq_ne ⟨by omega, by omega⟩ ⟨by omega, by omega⟩ (fun _ => ?_) (fun _ => ?_) <;> try (exfalso; omega)) | (refine wq_lt ⟨by omega, by omega⟩ ⟨by omega, by omega⟩ (fun _ => ?_) (fun _ => ?_) <;> try (exfalso; omega)) | (refine wq_ge ⟨by omega, by omega⟩ ⟨by omega, by omega⟩ (fun _ => ?_) (fun _ => ?_) <;> try (exfalso; omega)) | (refine wq_gt ⟨by omega, by omega⟩ ⟨by omega, by omega⟩ (fun _ => ?_) (fun _ => ?_) <;> try (exfalso; omega)) | (refine wq_le ⟨by omega, by omega⟩ ⟨by omega, by omega⟩ (fun _ => ?_) (fun _ => ?_) <;> try (exfalso; omega)) | (refine wq_ifeq ⟨by omega, by omega⟩ (fun _ => ?_) (fun _ => ?_) <;> try (exfalso; omega)) | (refine wq_ifne ⟨by omega, by omega⟩ (fun _ => ?_) (fun _ => ?_) <;> try (exfalso; omega)) | (refine wq_iflt ⟨by omega, by omega⟩ (fun _ => ?_) (fun _ => ?_) <;> try (exfalso; omega)) | (refine wq_ifge ⟨by omega, by omega⟩ (fun _ => ?_) (fun _ => ?_) <;> try (exfalso; omega)) | (refine wq_ifgt ⟨by omega, by omega⟩ (fun _ => ?_) (fun _ => ?_) <;> try (exfalso; omega)) | (refine wq_ifle ⟨by omega, by omega⟩ (fun _ => ?_) (fun _ => ?_) <;> try (exfalso; omega)) | refine wq_r rfl rfl rfl rfl rfl rfl ?_)
          refine wf rfl (wq_cv rfl rfl rfl h1 (hca.mono ?_))
          rintro v M1 ⟨rfl, rfl⟩
          repeat' (refine wf rfl ?_; first | refine wq_iadd ?_ | refine wq_isub ?_ | refine wq_imul ?_ | refine wq_iinc rfl ?_ | refine wq_goto ?_ | refine wq_k rfl ?_ | refine wq_b rfl rfl ?_ | refine wq_getf (by assumption) rfl ?_ | refine wq_alen (by assumption) rfl ?_ | (refine wq_eq ⟨by omega, by omega⟩ ⟨by omega, by omega⟩ (fun _ => ?_) (fun _ => ?_) <;> try (exfalso; omega)) | (refine wq_ne ⟨by omega, by omega⟩ ⟨by omega, by omega⟩ (fun _ => ?_) (fun _ => ?_) <;> try (exfalso; omega)) | (refine wq_lt ⟨by omega, by omega⟩ ⟨by omega, by omega⟩ (fun _ => ?_) (fun _ => ?_) <;> try (exfalso; omega)) | (refine wq_ge ⟨by omega, by omega⟩ ⟨by omega, by omega⟩ (fun _ => ?_) (fun _ => ?_) <;> try (exfalso; omega)) | (refine wq_gt ⟨by omega, by omega⟩ ⟨by omega, by omega⟩ (fun _ => ?_) (fun _ => ?_) <;> try (exfalso; omega)) | (refine wq_le ⟨by omega, by omega⟩ ⟨by omega, by omega⟩ (fun _ => ?_) (fun _ => ?_) <;> try (exfalso; omega)) | (refine wq_ifeq ⟨by omega, by omega⟩ (fun _ => ?_) (fun _ => ?_) <;> try (exfalso; omega)) | (refine wq_ifne ⟨by omega, by omega⟩ (fun _ => ?_) (fun _ => ?_) <;> try (exfalso; omega)) | (refine wq_iflt ⟨by omega, by omega⟩ (fun _ => ?_) (fun _ => ?_) <;> try (exfalso; omega)) | (refine wq_ifge ⟨by omega, by omega⟩ (fun _ => ?_) (fun _ => ?_) <;> try (exfalso; omega)) | (refine wq_ifgt ⟨by omega, by omega⟩ (fun _ => ?_) (fun _ => ?_) <;> try (exfalso; omega)) | (refine wq_ifle ⟨by omega, by omega⟩ (fun _ => ?_) (fun _ => ?_) <;> try (exfalso; omega)) | refine wq_r rfl rfl rfl rfl rfl rfl ?_)
          refine wf rfl (wq_cv rfl rfl rfl h1 (hset.mono ?_))
          rintro v M2 ⟨rfl, hr, f2⟩
          repeat' (first | (refine Wp.sub (ih _ _ ?_) ⟨rfl, rfl, rfl, rfl, trivial⟩ rfl) | (refine wf rfl ?_; first | refine wq_iadd ?_ | refine wq_isub ?_ | refine wq_imul ?_ | refine wq_iinc rfl ?_ | refine wq_goto ?_ | refine wq_k rfl ?_ | refine wq_b rfl rfl ?_ | refine wq_getf (by assumption) rfl ?_ | refine wq_alen (by assumption) rfl ?_ | fail | (refine wq_eq ⟨by omega, by omega⟩ ⟨by omega, by omega⟩ (fun _ => ?_) (fun _ => ?_) <;> try (exfalso; omega)) | (refine wq_ne ⟨by omega, by omega⟩ ⟨by omega, by omega⟩ (fun _ => ?_) (fun _ => ?_) <;> try (exfalso; omega)) | (refine wq_lt ⟨by omega, by omega⟩ ⟨by omega, by omega⟩ (fun _ => ?_) (fun _ => ?_) <;> try (exfalso; omega)) | (refine wq_ge ⟨by omega, by omega⟩ ⟨by omega, by omega⟩ (fun _ => ?_) (fun _ => ?_) <;> try (exfalso; omega)) | (refine wq_gt ⟨by omega, by omega⟩ ⟨by omega, by omega⟩ (fun _ => ?_) (fun _ => ?_) <;> try (exfalso; omega)) | (refine wq_le ⟨by omega, by omega⟩ ⟨by omega, by omega⟩ (fun _ => ?_) (fun _ => ?_) <;> try (exfalso; omega)) | (refine wq_ifeq ⟨by omega, by omega⟩ (fun _ => ?_) (fun _ => ?_) <;> try (exfalso; omega)) | (refine wq_ifne ⟨by omega, by omega⟩ (fun _ => ?_) (fun _ => ?_) <;> try (exfalso; omega)) | (refine wq_iflt ⟨by omega, by omega⟩ (fun _ => ?_) (fun _ => ?_) <;> try (exfalso; omega)) | (refine wq_ifge ⟨by omega, by omega⟩ (fun _ => ?_) (fun _ => ?_) <;> try (exfalso; omega)) | (refine wq_ifgt ⟨by omega, by omega⟩ (fun _ => ?_) (fun _ => ?_) <;> try (exfalso; omega)) | (refine wq_ifle ⟨by omega, by omega⟩ (fun _ => ?_) (fun _ => ?_) <;> try (exfalso; omega)) | refine wq_r rfl rfl rfl rfl rfl rfl ?_))
          refine fin M2 (f2.mono (fun q hq => Or.inr hq)) (i5.fr f2 (by omega) (by omega)) ?_
          rw [hdr]
          unfold unr1
          rw [if_neg hne, if_pos (by omega)]
          have : rset ys p (rat xs p - 1) = xs.take p.toNat ++ ([rat xs p - 1] ++ U) := by
            unfold rset
            rw [if_neg (by omega), List.set_eq_take_append_cons_drop, if_pos (by omega), htk, hdp]
            rfl
          rw [← this]
          exact hr
      · have hop := c_Row_opn (p := p) (by omega) hab hf i6 i5
        rw [htk, hdp] at hop
        repeat' (refine wf rfl ?_; first | refine wq_iadd ?_ | refine wq_isub ?_ | refine wq_imul ?_ | refine wq_iinc rfl ?_ | refine wq_goto ?_ | refine wq_k rfl ?_ | refine wq_b rfl rfl ?_ | refine wq_getf (by assumption) rfl ?_ | refine wq_alen (by assumption) rfl ?_ | (refine wq_eq ⟨by omega, by omega⟩ ⟨by omega, by omega⟩ (fun _ => ?_) (fun _ => ?_) <;> try (exfalso; omega)) | (refine wq_ne ⟨by omega, by omega⟩ ⟨by omega, by omega⟩ (fun _ => ?_) (fun _ => ?_) <;> try (exfalso; omega)) | (refine wq_lt ⟨by omega, by omega⟩ ⟨by omega, by omega⟩ (fun _ => ?_) (fun _ => ?_) <;> try (exfalso; omega)) | (refine wq_ge ⟨by omega, by omega⟩ ⟨by omega, by omega⟩ (fun _ => ?_) (fun _ => ?_) <;> try (exfalso; omega)) | (refine wq_gt ⟨by omega, by omega⟩ ⟨by omega, by omega⟩ (fun _ => ?_) (fun _ => ?_) <;> try (exfalso; omega)) | (refine wq_le ⟨by omega, by omega⟩ ⟨by omega, by omega⟩ (fun _ => ?_) (fun _ => ?_) <;> try (exfalso; omega)) | (refine wq_ifeq ⟨by omega, by omega⟩ (fun _ => ?_) (fun _ => ?_) <;> try (exfalso; omega)) | (refine wq_ifne ⟨by omega, by omega⟩ (fun _ => ?_) (fun _ => ?_) <;> try (exfalso; omega)) | (refine wq_iflt ⟨by omega, by omega⟩ (fun _ => ?_) (fun _ => ?_) <;> try (exfalso; omega)) | (refine wq_ifge ⟨by omega, by omega⟩ (fun _ => ?_) (fun _ => ?_) <;> try (exfalso; omega)) | (refine wq_ifgt ⟨by omega, by omega⟩ (fun _ => ?_) (fun _ => ?_) <;> try (exfalso; omega)) | (refine wq_ifle ⟨by omega, by omega⟩ (fun _ => ?_) (fun _ => ?_) <;> try (exfalso; omega)) | refine wq_r rfl rfl rfl rfl rfl rfl ?_)
        refine wf rfl (wq_cv rfl rfl rfl h1 (hop.mono ?_))
        rw [hdr] at hsp
        unfold unr1 at hsp hdr
        rw [if_pos heq] at hsp hdr
        rw [List.length_append] at hsp
        rintro v M2 (⟨q1, rfl, rfl⟩ | ⟨q1, rfl, f2, hr⟩)
        · exfalso; omega
        · repeat' (first | (refine Wp.sub (ih _ _ ?_) ⟨rfl, rfl, rfl, rfl, trivial⟩ rfl) | (refine wf rfl ?_; first | refine wq_iadd ?_ | refine wq_isub ?_ | refine wq_imul ?_ | refine wq_iinc rfl ?_ | refine wq_goto ?_ | refine wq_k rfl ?_ | refine wq_b rfl rfl ?_ | refine wq_getf (by assumption) rfl ?_ | refine wq_alen (by assumption) rfl ?_ | fail | (refine wq_eq ⟨by omega, by omega⟩ ⟨by omega, by omega⟩ (fun _ => ?_) (fun _ => ?_) <;> try (exfalso; omega)) | (refine wq_ne ⟨by omega, by omega⟩ ⟨by omega, by omega⟩ (fun _ => ?_) (fun _ => ?_) <;> try (exfalso; omega)) | (refine wq_lt ⟨by omega, by omega⟩ ⟨by omega, by omega⟩ (fun _ => ?_) (fun _ => ?_) <;> try (exfalso; omega)) | (refine wq_ge ⟨by omega, by omega⟩ ⟨by omega, by omega⟩ (fun _ => ?_) (fun _ => ?_) <;> try (exfalso; omega)) | (refine wq_gt ⟨by omega, by omega⟩ ⟨by omega, by omega⟩ (fun _ => ?_) (fun _ => ?_) <;> try (exfalso; omega)) | (refine wq_le ⟨by omega, by omega⟩ ⟨by omega, by omega⟩ (fun _ => ?_) (fun _ => ?_) <;> try (exfalso; omega)) | (refine wq_ifeq ⟨by omega, by omega⟩ (fun _ => ?_) (fun _ => ?_) <;> try (exfalso; omega)) | (refine wq_ifne ⟨by omega, by omega⟩ (fun _ => ?_) (fun _ => ?_) <;> try (exfalso; omega)) | (refine wq_iflt ⟨by omega, by omega⟩ (fun _ => ?_) (fun _ => ?_) <;> try (exfalso; omega)) | (refine wq_ifge ⟨by omega, by omega⟩ (fun _ => ?_) (fun _ => ?_) <;> try (exfalso; omega)) | (refine wq_ifgt ⟨by omega, by omega⟩ (fun _ => ?_) (fun _ => ?_) <;> try (exfalso; omega)) | (refine wq_ifle ⟨by omega, by omega⟩ (fun _ => ?_) (fun _ => ?_) <;> try (exfalso; omega)) | refine wq_r rfl rfl rfl rfl rfl rfl ?_))
          refine fin M2 f2 (i5.fr f2 (by omega) (by omega)) ?_
          rw [hdr]
          exact hr
    · have hp : p = -1 := by omega
      subst hp
      obtain ⟨g, h1, h2, h3, h4⟩ := id i6
      repeat' (refine wf rfl ?_; first | refine wq_iadd ?_ | refine wq_isub ?_ | refine wq_imul ?_ | refine wq_iinc rfl ?_ | refine wq_goto ?_ | refine wq_k rfl ?_ | refine wq_b rfl rfl ?_ | refine wq_getf (by assumption) rfl ?_ | refine wq_alen (by assumption) rfl ?_ | (refine wq_eq ⟨by omega, by omega⟩ ⟨by omega, by omega⟩ (fun _ => ?_) (fun _ => ?_) <;> try (exfalso; omega)) | (refine wq_ne ⟨by omega, by omega⟩ ⟨by omega, by omega⟩ (fun _ => ?_) (fun _ => ?_) <;> try (exfalso; omega)) | (refine wq_lt ⟨by omega, by omega⟩ ⟨by omega, by omega⟩ (fun _ => ?_) (fun _ => ?_) <;> try (exfalso; omega)) | (refine wq_ge ⟨by omega, by omega⟩ ⟨by omega, by omega⟩ (fun _ => ?_) (fun _ => ?_) <;> try (exfalso; omega)) | (refine wq_gt ⟨by omega, by omega⟩ ⟨by omega, by omega⟩ (fun _ => ?_) (fun _ => ?_) <;> try (exfalso; omega)) | (refine wq_le ⟨by omega, by omega⟩ ⟨by omega, by omega⟩ (fun _ => ?_) (fun _ => ?_) <;> try (exfalso; omega)) | (refine wq_ifeq ⟨by omega, by omega⟩ (fun _ => ?_) (fun _ => ?_) <;> try (exfalso; omega)) | (refine wq_ifne ⟨by omega, by omega⟩ (fun _ => ?_) (fun _ => ?_) <;> try (exfalso; omega)) | (refine wq_iflt ⟨by omega, by omega⟩ (fun _ => ?_) (fun _ => ?_) <;> try (exfalso; omega)) | (refine wq_ifge ⟨by omega, by omega⟩ (fun _ => ?_) (fun _ => ?_) <;> try (exfalso; omega)) | (refine wq_ifgt ⟨by omega, by omega⟩ (fun _ => ?_) (fun _ => ?_) <;> try (exfalso; omega)) | (refine wq_ifle ⟨by omega, by omega⟩ (fun _ => ?_) (fun _ => ?_) <;> try (exfalso; omega)) | refine wq_r rfl rfl rfl rfl rfl rfl ?_)
      exact ⟨rfl, i6, i4⟩
theorem c_Row_unrollSymbol {M : PM} {a b : Nat} {xs fl : List Int} {sym : Int} (hab : a ≠ b ∧ a + 1 ≠ b ∧ b + 1 ≠ a) (hs : 0 ≤ sym ∧ sym < 34) (hf : 1 ≤ fl.length) (hu : (unr sym fl xs).length ≤ 80) (hb : SB xs) (h : Rw M a xs) (h' : Rw M b fl) : Wm 80 [.ref a, .int (I sym), .ref b] M (fun v M' => v = none ∧ Rw M' a (unr sym fl xs) ∧ Fr (fun q => q = a ∨ q = a + 1) M M') := by
  have hl := h.len
  obtain ⟨g, h1, h2, h3, h4⟩ := id h
  refine wm_in (lv := _) rfl rfl rfl ?_
  repeat' (first | (refine Wp.sub (lp_unr hab hs hf hu hb 100 _ _ ?_) ⟨rfl, rfl, rfl, rfl, trivial⟩ rfl) | (refine wf rfl ?_; first | refine wq_iadd ?_ | refine wq_isub ?_ | refine wq_imul ?_ | refine wq_iinc rfl ?_ | refine wq_goto ?_ | refine wq_k rfl ?_ | refine wq_b rfl rfl ?_ | refine wq_getf (by assumption) rfl ?_ | refine wq_alen (by assumption) rfl ?_ | fail | (refine wq_eq ⟨by omega, by omega⟩ ⟨by omega, by omega⟩ (fun _ => ?_) (fun _ => ?_) <;> try (exfalso; omega)) | (refine wq_ne ⟨by omega, by omega⟩ ⟨by omega, by omega⟩ (fun _ => ?_) (fun _ => ?_) <;> try (exfalso; omega)) | (refine wq_lt ⟨by omega, by omega⟩ ⟨by omega, by omega⟩ (fun _ => ?_) (fun _ => ?_) <;> try (exfalso; omega)) | (refine wq_ge ⟨by omega, by omega⟩ ⟨by omega, by omega⟩ (fun _ => ?_) (fun _ => ?_) <;> try (exfalso; omega)) | (refine wq_gt ⟨by omega, by omega⟩ ⟨by omega, by omega⟩ (fun _ => ?_) (fun _ => ?_) <;> try (exfalso; omega)) | (refine wq_le ⟨by omega, by omega⟩ ⟨by omega, by omega⟩ (fun _ => ?_) (fun _ => ?_) <;> try (exfalso; omega)) | (refine wq_ifeq ⟨by omega, by omega⟩ (fun _ => ?_) (fun _ => ?_) <;> try (exfalso; omega)) | (refine wq_ifne ⟨by omega, by omega⟩ (fun _ => ?_) (fun _ => ?_) <;> try (exfalso; omega)) | (refine wq_iflt ⟨by omega, by omega⟩ (fun _ => ?_) (fun _ => ?_) <;> try (exfalso; omega)) | (refine wq_ifge ⟨by omega, by omega⟩ (fun _ => ?_) (fun _ => ?_) <;> try (exfalso; omega)) | (refine wq_ifgt ⟨by omega, by omega⟩ (fun _ => ?_) (fun _ => ?_) <;> try (exfalso; omega)) | (refine wq_ifle ⟨by omega, by omega⟩ (fun _ => ?_) (fun _ => ?_) <;> try (exfalso; omega)) | refine wq_r rfl rfl rfl rfl rfl rfl ?_))
  refine ⟨by omega, by omega, by omega, Fr.rf, h', ?_⟩
  rw [show ((xs.length : Int) - 1 + 1).toNat = xs.length by omega, List.take_length, List.drop_length]
  unfold unr
  simpa using h
end
section
/-! The grammar's cells (class Grammar): its object at g, what it holds in the 59 cells from g on. -/
theorem c_min {M : PM} {x y : Int} (hx : inR x) (hy : inR y) : Wm 190 [.int (I x), .int (I y)] M (fun v M' => v = some (.int (I (min x y))) ∧ M' = M) := by
  obtain ⟨hx1, hx2⟩ := hx
  obtain ⟨hy1, hy2⟩ := hy
  refine wm_in (lv := _) rfl rfl rfl ?_
  repeat' (refine wf rfl ?_; first | refine wq_iadd ?_ | refine wq_isub ?_ | refine wq_imul ?_ | refine wq_iinc rfl ?_ | refine wq_goto ?_ | refine wq_k rfl ?_ | refine wq_b rfl rfl ?_ | refine wq_getf (by assumption) rfl ?_ | refine wq_alen (by assumption) rfl ?_ | (refine wq_eq ⟨by omega, by omega⟩ ⟨by omega, by omega⟩ (fun _ => ?_) (fun _ => ?_) <;> try (exfalso; omega)) | (refine wq_ne ⟨by omega, by omega⟩ ⟨by omega, by omega⟩ (fun _ => ?_) (fun _ => ?_) <;> try (exfalso; omega)) | (refine wq_lt ⟨by omega, by omega⟩ ⟨by omega, by omega⟩ (fun _ => ?_) (fun _ => ?_) <;> try (exfalso; omega)) | (refine wq_ge ⟨by omega, by omega⟩ ⟨by omega, by omega⟩ (fun _ => ?_) (fun _ => ?_) <;> try (exfalso; omega)) | (refine wq_gt ⟨by omega, by omega⟩ ⟨by omega, by omega⟩ (fun _ => ?_) (fun _ => ?_) <;> try (exfalso; omega)) | (refine wq_le ⟨by omega, by omega⟩ ⟨by omega, by omega⟩ (fun _ => ?_) (fun _ => ?_) <;> try (exfalso; omega)) | (refine wq_ifeq ⟨by omega, by omega⟩ (fun _ => ?_) (fun _ => ?_) <;> try (exfalso; omega)) | (refine wq_ifne ⟨by omega, by omega⟩ (fun _ => ?_) (fun _ => ?_) <;> try (exfalso; omega)) | (refine wq_iflt ⟨by omega, by omega⟩ (fun _ => ?_) (fun _ => ?_) <;> try (exfalso; omega)) | (refine wq_ifge ⟨by omega, by omega⟩ (fun _ => ?_) (fun _ => ?_) <;> try (exfalso; omega)) | (refine wq_ifgt ⟨by omega, by omega⟩ (fun _ => ?_) (fun _ => ?_) <;> try (exfalso; omega)) | (refine wq_ifle ⟨by omega, by omega⟩ (fun _ => ?_) (fun _ => ?_) <;> try (exfalso; omega)) | refine wq_r rfl rfl rfl rfl rfl rfl ?_)
  · exact ⟨by rw [Int.min_eq_right (by omega)], rfl⟩
  · exact ⟨by rw [Int.min_eq_left (by omega)], rfl⟩
theorem c_max {M : PM} {x y : Int} (hx : inR x) (hy : inR y) : Wm 189 [.int (I x), .int (I y)] M (fun v M' => v = some (.int (I (max x y))) ∧ M' = M) := by
  obtain ⟨hx1, hx2⟩ := hx
  obtain ⟨hy1, hy2⟩ := hy
  refine wm_in (lv := _) rfl rfl rfl ?_
  repeat' (refine wf rfl ?_; first | refine wq_iadd ?_ | refine wq_isub ?_ | refine wq_imul ?_ | refine wq_iinc rfl ?_ | refine wq_goto ?_ | refine wq_k rfl ?_ | refine wq_b rfl rfl ?_ | refine wq_getf (by assumption) rfl ?_ | refine wq_alen (by assumption) rfl ?_ | (refine wq_eq ⟨by omega, by omega⟩ ⟨by omega, by omega⟩ (fun _ => ?_) (fun _ => ?_) <;> try (exfalso; omega)) | (refine wq_ne ⟨by omega, by omega⟩ ⟨by omega, by omega⟩ (fun _ => ?_) (fun _ => ?_) <;> try (exfalso; omega)) | (refine wq_lt ⟨by omega, by omega⟩ ⟨by omega, by omega⟩ (fun _ => ?_) (fun _ => ?_) <;> try (exfalso; omega)) | (refine wq_ge ⟨by omega, by omega⟩ ⟨by omega, by omega⟩ (fun _ => ?_) (fun _ => ?_) <;> try (exfalso; omega)) | (refine wq_gt ⟨by omega, by omega⟩ ⟨by omega, by omega⟩ (fun _ => ?_) (fun _ => ?_) <;> try (exfalso; omega)) | (refine wq_le ⟨by omega, by omega⟩ ⟨by omega, by omega⟩ (fun _ => ?_) (fun _ => ?_) <;> try (exfalso; omega)) | (refine wq_ifeq ⟨by omega, by omega⟩ (fun _ => ?_) (fun _ => ?_) <;> try (exfalso; omega)) | (refine wq_ifne ⟨by omega, by omega⟩ (fun _ => ?_) (fun _ => ?_) <;> try (exfalso; omega)) | (refine wq_iflt ⟨by omega, by omega⟩ (fun _ => ?_) (fun _ => ?_) <;> try (exfalso; omega)) | (refine wq_ifge ⟨by omega, by omega⟩ (fun _ => ?_) (fun _ => ?_) <;> try (exfalso; omega)) | (refine wq_ifgt ⟨by omega, by omega⟩ (fun _ => ?_) (fun _ => ?_) <;> try (exfalso; omega)) | (refine wq_ifle ⟨by omega, by omega⟩ (fun _ => ?_) (fun _ => ?_) <;> try (exfalso; omega)) | refine wq_r rfl rfl rfl rfl rfl rfl ?_)
  · exact ⟨by rw [Int.max_eq_right (by omega)], rfl⟩
  · exact ⟨by rw [Int.max_eq_left (by omega)], rfl⟩
theorem c_isLetter {M : PM} {x : Int} (hx : inR x) : Wm 117 [.int (I x)] M (fun v M' => v = some (.int (I (if 0 ≤ x ∧ x < 8 then 1 else 0))) ∧ M' = M) := by
  obtain ⟨hx1, hx2⟩ := hx
  refine wm_in (lv := _) rfl rfl rfl ?_
  repeat' (refine wf rfl ?_; first | refine wq_iadd ?_ | refine wq_isub ?_ | refine wq_imul ?_ | refine wq_iinc rfl ?_ | refine wq_goto ?_ | refine wq_k rfl ?_ | refine wq_b rfl rfl ?_ | refine wq_getf (by assumption) rfl ?_ | refine wq_alen (by assumption) rfl ?_ | (refine wq_eq ⟨by omega, by omega⟩ ⟨by omega, by omega⟩ (fun _ => ?_) (fun _ => ?_) <;> try (exfalso; omega)) | (refine wq_ne ⟨by omega, by omega⟩ ⟨by omega, by omega⟩ (fun _ => ?_) (fun _ => ?_) <;> try (exfalso; omega)) | (refine wq_lt ⟨by omega, by omega⟩ ⟨by omega, by omega⟩ (fun _ => ?_) (fun _ => ?_) <;> try (exfalso; omega)) | (refine wq_ge ⟨by omega, by omega⟩ ⟨by omega, by omega⟩ (fun _ => ?_) (fun _ => ?_) <;> try (exfalso; omega)) | (refine wq_gt ⟨by omega, by omega⟩ ⟨by omega, by omega⟩ (fun _ => ?_) (fun _ => ?_) <;> try (exfalso; omega)) | (refine wq_le ⟨by omega, by omega⟩ ⟨by omega, by omega⟩ (fun _ => ?_) (fun _ => ?_) <;> try (exfalso; omega)) | (refine wq_ifeq ⟨by omega, by omega⟩ (fun _ => ?_) (fun _ => ?_) <;> try (exfalso; omega)) | (refine wq_ifne ⟨by omega, by omega⟩ (fun _ => ?_) (fun _ => ?_) <;> try (exfalso; omega)) | (refine wq_iflt ⟨by omega, by omega⟩ (fun _ => ?_) (fun _ => ?_) <;> try (exfalso; omega)) | (refine wq_ifge ⟨by omega, by omega⟩ (fun _ => ?_) (fun _ => ?_) <;> try (exfalso; omega)) | (refine wq_ifgt ⟨by omega, by omega⟩ (fun _ => ?_) (fun _ => ?_) <;> try (exfalso; omega)) | (refine wq_ifle ⟨by omega, by omega⟩ (fun _ => ?_) (fun _ => ?_) <;> try (exfalso; omega)) | refine wq_r rfl rfl rfl rfl rfl rfl ?_)
  · exact ⟨by rw [if_neg (by omega)], rfl⟩
  · exact ⟨by rw [if_neg (by omega)], rfl⟩
  · exact ⟨by rw [if_pos (by omega)], rfl⟩
def Gm (M : PM) (g N : Nat) (p : Nat → Nat) (X : Nat → List Int) (mn : List Int) (lt dp us : Nat → Int) (W : Int) : Prop :=
  M[g]? = some (.inr (0, [.ref (g + 1), .ref (g + 2), .int (I N), .ref (g + 4), .ref (g + 5), .ref (g + 6), .int (I W)])) ∧
  (∃ f : Nat → Option Nat, M[g + 1]? = some (aQ 2 26 f) ∧ ∀ k, k < 26 → f k = some (p k)) ∧
  Rw M (g + 2) mn ∧ M[g + 4]? = some (aJ 26 lt) ∧ M[g + 5]? = some (aJ 26 dp) ∧ M[g + 6]? = some (aJ 26 us) ∧
  (∀ k, k < 26 → Rw M (p k) (X k)) ∧ (∀ k, k < 26 → ∃ j, j < 26 ∧ p k = g + 7 + 2 * j) ∧ (∀ j k, j < 26 → k < 26 → p j = p k → j = k) ∧ N ≤ 26
theorem Gm.fr {P : Nat → Prop} {M M' : PM} {g N : Nat} {p : Nat → Nat} {X : Nat → List Int} {mn : List Int} {lt dp us : Nat → Int} {W : Int} (h : Gm M g N p X mn lt dp us W) (f : Fr P M M') (hP : ∀ q, g ≤ q → q < g + 59 → ¬ P q) : Gm M' g N p X mn lt dp us W := by
  obtain ⟨q1, ⟨ff, q2, q3⟩, q4, q5, q6, q7, q8, q9, q10, q11⟩ := h
  refine ⟨f.at (hP _ (by omega) (by omega)) q1, ⟨ff, f.at (hP _ (by omega) (by omega)) q2, q3⟩, q4.fr f (hP _ (by omega) (by omega)) (hP _ (by omega) (by omega)), f.at (hP _ (by omega) (by omega)) q5, f.at (hP _ (by omega) (by omega)) q6, f.at (hP _ (by omega) (by omega)) q7, fun k hk => ?_, q9, q10, q11⟩
  obtain ⟨j, hj, e⟩ := q9 k hk
  exact (q8 k hk).fr f (hP _ (by omega) (by omega)) (hP _ (by omega) (by omega))
section GR1
variable {M : PM} {g N : Nat} {p : Nat → Nat} {X : Nat → List Int} {mn : List Int} {lt dp us : Nat → Int} {W : Int}
theorem Gm.obj (h : Gm M g N p X mn lt dp us W) : M[g]? = some (.inr (0, [.ref (g + 1), .ref (g + 2), .int (I N), .ref (g + 4), .ref (g + 5), .ref (g + 6), .int (I W)])) := h.1
theorem Gm.le (h : Gm M g N p X mn lt dp us W) : N ≤ 26 := h.2.2.2.2.2.2.2.2.2
theorem Gm.main (h : Gm M g N p X mn lt dp us W) : Rw M (g + 2) mn := h.2.2.1
theorem Gm.row (h : Gm M g N p X mn lt dp us W) {k : Nat} (hk : k < 26) : Rw M (p k) (X k) := h.2.2.2.2.2.2.1 k hk
theorem c_Gr_ruleCount (h : Gm M g N p X mn lt dp us W) : Wm 3 [.ref g] M (fun v M' => v = some (.int (I N)) ∧ M' = M) := by
  have h1 := h.obj
  refine wm_in (lv := _) rfl rfl rfl ?_
  repeat' (refine wf rfl ?_; first | refine wq_iadd ?_ | refine wq_isub ?_ | refine wq_imul ?_ | refine wq_iinc rfl ?_ | refine wq_goto ?_ | refine wq_k rfl ?_ | refine wq_b rfl rfl ?_ | refine wq_getf (by assumption) rfl ?_ | refine wq_alen (by assumption) rfl ?_ | (refine wq_eq ⟨by omega, by omega⟩ ⟨by omega, by omega⟩ (fun _ => ?_) (fun _ => ?_) <;> try (exfalso; omega)) | (refine wq_ne ⟨by omega, by omega⟩ ⟨by omega, by omega⟩ (fun _ => ?_) (fun _ => ?_) <;> try (exfalso; omega)) | (refine wq_lt ⟨by omega, by omega⟩ ⟨by omega, by omega⟩ (fun _ => ?_) (fun _ => ?_) <;> try (exfalso; omega)) | (refine wq_ge ⟨by omega, by omega⟩ ⟨by omega, by omega⟩ (fun _ => ?_) (fun _ => ?_) <;> try (exfalso; omega)) | (refine wq_gt ⟨by omega, by omega⟩ ⟨by omega, by omega⟩ (fun _ => ?_) (fun _ => ?_) <;> try (exfalso; omega)) | (refine wq_le ⟨by omega, by omega⟩ ⟨by omega, by omega⟩ (fun _ => ?_) (fun _ => ?_) <;> try (exfalso; omega)) | (refine wq_ifeq ⟨by omega, by omega⟩ (fun _ => ?_) (fun _ => ?_) <;> try (exfalso; omega)) | (refine wq_ifne ⟨by omega, by omega⟩ (fun _ => ?_) (fun _ => ?_) <;> try (exfalso; omega)) | (refine wq_iflt ⟨by omega, by omega⟩ (fun _ => ?_) (fun _ => ?_) <;> try (exfalso; omega)) | (refine wq_ifge ⟨by omega, by omega⟩ (fun _ => ?_) (fun _ => ?_) <;> try (exfalso; omega)) | (refine wq_ifgt ⟨by omega, by omega⟩ (fun _ => ?_) (fun _ => ?_) <;> try (exfalso; omega)) | (refine wq_ifle ⟨by omega, by omega⟩ (fun _ => ?_) (fun _ => ?_) <;> try (exfalso; omega)) | refine wq_r rfl rfl rfl rfl rfl rfl ?_)
  exact ⟨rfl, rfl⟩
theorem c_Gr_wordLetters (h : Gm M g N p X mn lt dp us W) : Wm 11 [.ref g] M (fun v M' => v = some (.int (I W)) ∧ M' = M) := by
  have h1 := h.obj
  refine wm_in (lv := _) rfl rfl rfl ?_
  repeat' (refine wf rfl ?_; first | refine wq_iadd ?_ | refine wq_isub ?_ | refine wq_imul ?_ | refine wq_iinc rfl ?_ | refine wq_goto ?_ | refine wq_k rfl ?_ | refine wq_b rfl rfl ?_ | refine wq_getf (by assumption) rfl ?_ | refine wq_alen (by assumption) rfl ?_ | (refine wq_eq ⟨by omega, by omega⟩ ⟨by omega, by omega⟩ (fun _ => ?_) (fun _ => ?_) <;> try (exfalso; omega)) | (refine wq_ne ⟨by omega, by omega⟩ ⟨by omega, by omega⟩ (fun _ => ?_) (fun _ => ?_) <;> try (exfalso; omega)) | (refine wq_lt ⟨by omega, by omega⟩ ⟨by omega, by omega⟩ (fun _ => ?_) (fun _ => ?_) <;> try (exfalso; omega)) | (refine wq_ge ⟨by omega, by omega⟩ ⟨by omega, by omega⟩ (fun _ => ?_) (fun _ => ?_) <;> try (exfalso; omega)) | (refine wq_gt ⟨by omega, by omega⟩ ⟨by omega, by omega⟩ (fun _ => ?_) (fun _ => ?_) <;> try (exfalso; omega)) | (refine wq_le ⟨by omega, by omega⟩ ⟨by omega, by omega⟩ (fun _ => ?_) (fun _ => ?_) <;> try (exfalso; omega)) | (refine wq_ifeq ⟨by omega, by omega⟩ (fun _ => ?_) (fun _ => ?_) <;> try (exfalso; omega)) | (refine wq_ifne ⟨by omega, by omega⟩ (fun _ => ?_) (fun _ => ?_) <;> try (exfalso; omega)) | (refine wq_iflt ⟨by omega, by omega⟩ (fun _ => ?_) (fun _ => ?_) <;> try (exfalso; omega)) | (refine wq_ifge ⟨by omega, by omega⟩ (fun _ => ?_) (fun _ => ?_) <;> try (exfalso; omega)) | (refine wq_ifgt ⟨by omega, by omega⟩ (fun _ => ?_) (fun _ => ?_) <;> try (exfalso; omega)) | (refine wq_ifle ⟨by omega, by omega⟩ (fun _ => ?_) (fun _ => ?_) <;> try (exfalso; omega)) | refine wq_r rfl rfl rfl rfl rfl rfl ?_)
  exact ⟨rfl, rfl⟩
theorem c_Gr_mainRow (h : Gm M g N p X mn lt dp us W) : Wm 8 [.ref g] M (fun v M' => v = some (.ref (g + 2)) ∧ M' = M) := by
  have h1 := h.obj
  refine wm_in (lv := _) rfl rfl rfl ?_
  repeat' (refine wf rfl ?_; first | refine wq_iadd ?_ | refine wq_isub ?_ | refine wq_imul ?_ | refine wq_iinc rfl ?_ | refine wq_goto ?_ | refine wq_k rfl ?_ | refine wq_b rfl rfl ?_ | refine wq_getf (by assumption) rfl ?_ | refine wq_alen (by assumption) rfl ?_ | (refine wq_eq ⟨by omega, by omega⟩ ⟨by omega, by omega⟩ (fun _ => ?_) (fun _ => ?_) <;> try (exfalso; omega)) | (refine wq_ne ⟨by omega, by omega⟩ ⟨by omega, by omega⟩ (fun _ => ?_) (fun _ => ?_) <;> try (exfalso; omega)) | (refine wq_lt ⟨by omega, by omega⟩ ⟨by omega, by omega⟩ (fun _ => ?_) (fun _ => ?_) <;> try (exfalso; omega)) | (refine wq_ge ⟨by omega, by omega⟩ ⟨by omega, by omega⟩ (fun _ => ?_) (fun _ => ?_) <;> try (exfalso; omega)) | (refine wq_gt ⟨by omega, by omega⟩ ⟨by omega, by omega⟩ (fun _ => ?_) (fun _ => ?_) <;> try (exfalso; omega)) | (refine wq_le ⟨by omega, by omega⟩ ⟨by omega, by omega⟩ (fun _ => ?_) (fun _ => ?_) <;> try (exfalso; omega)) | (refine wq_ifeq ⟨by omega, by omega⟩ (fun _ => ?_) (fun _ => ?_) <;> try (exfalso; omega)) | (refine wq_ifne ⟨by omega, by omega⟩ (fun _ => ?_) (fun _ => ?_) <;> try (exfalso; omega)) | (refine wq_iflt ⟨by omega, by omega⟩ (fun _ => ?_) (fun _ => ?_) <;> try (exfalso; omega)) | (refine wq_ifge ⟨by omega, by omega⟩ (fun _ => ?_) (fun _ => ?_) <;> try (exfalso; omega)) | (refine wq_ifgt ⟨by omega, by omega⟩ (fun _ => ?_) (fun _ => ?_) <;> try (exfalso; omega)) | (refine wq_ifle ⟨by omega, by omega⟩ (fun _ => ?_) (fun _ => ?_) <;> try (exfalso; omega)) | refine wq_r rfl rfl rfl rfl rfl rfl ?_)
  exact ⟨rfl, rfl⟩
theorem c_Gr_hasRule {k : Int} (hk : inR k) (h : Gm M g N p X mn lt dp us W) : Wm 4 [.ref g, .int (I k)] M (fun v M' => v = some (.int (I (if 0 ≤ k ∧ k < N then 1 else 0))) ∧ M' = M) := by
  obtain ⟨hk1, hk2⟩ := hk
  have h1 := h.obj
  have h2 := h.le
  obtain ⟨-, ⟨f, h3, h4⟩, -⟩ := h
  refine wm_in (lv := _) rfl rfl rfl ?_
  repeat' (refine wf rfl ?_; first | refine wq_iadd ?_ | refine wq_isub ?_ | refine wq_imul ?_ | refine wq_iinc rfl ?_ | refine wq_goto ?_ | refine wq_k rfl ?_ | refine wq_b rfl rfl ?_ | refine wq_getf (by assumption) rfl ?_ | refine wq_alen (by assumption) rfl ?_ | (refine wq_eq ⟨by omega, by omega⟩ ⟨by omega, by omega⟩ (fun _ => ?_) (fun _ => ?_) <;> try (exfalso; omega)) | (refine wq_ne ⟨by omega, by omega⟩ ⟨by omega, by omega⟩ (fun _ => ?_) (fun _ => ?_) <;> try (exfalso; omega)) | (refine wq_lt ⟨by omega, by omega⟩ ⟨by omega, by omega⟩ (fun _ => ?_) (fun _ => ?_) <;> try (exfalso; omega)) | (refine wq_ge ⟨by omega, by omega⟩ ⟨by omega, by omega⟩ (fun _ => ?_) (fun _ => ?_) <;> try (exfalso; omega)) | (refine wq_gt ⟨by omega, by omega⟩ ⟨by omega, by omega⟩ (fun _ => ?_) (fun _ => ?_) <;> try (exfalso; omega)) | (refine wq_le ⟨by omega, by omega⟩ ⟨by omega, by omega⟩ (fun _ => ?_) (fun _ => ?_) <;> try (exfalso; omega)) | (refine wq_ifeq ⟨by omega, by omega⟩ (fun _ => ?_) (fun _ => ?_) <;> try (exfalso; omega)) | (refine wq_ifne ⟨by omega, by omega⟩ (fun _ => ?_) (fun _ => ?_) <;> try (exfalso; omega)) | (refine wq_iflt ⟨by omega, by omega⟩ (fun _ => ?_) (fun _ => ?_) <;> try (exfalso; omega)) | (refine wq_ifge ⟨by omega, by omega⟩ (fun _ => ?_) (fun _ => ?_) <;> try (exfalso; omega)) | (refine wq_ifgt ⟨by omega, by omega⟩ (fun _ => ?_) (fun _ => ?_) <;> try (exfalso; omega)) | (refine wq_ifle ⟨by omega, by omega⟩ (fun _ => ?_) (fun _ => ?_) <;> try (exfalso; omega)) | refine wq_r rfl rfl rfl rfl rfl rfl ?_)
  · exact ⟨by rw [if_neg (by omega)], rfl⟩
  · exact ⟨by rw [if_neg (by omega)], rfl⟩
  · exact ⟨by rw [if_pos (by omega)], rfl⟩
theorem c_Gr_isRule {k : Int} (hk : inR k) (h : Gm M g N p X mn lt dp us W) : Wm 6 [.ref g, .int (I k)] M (fun v M' => v = some (.int (I (if 8 ≤ k ∧ k < 8 + N then 1 else 0))) ∧ M' = M) := by
  obtain ⟨hk1, hk2⟩ := hk
  have h1 := h.obj
  have h2 := h.le
  refine wm_in (lv := _) rfl rfl rfl ?_
  repeat' (refine wf rfl ?_; first | refine wq_iadd ?_ | refine wq_isub ?_ | refine wq_imul ?_ | refine wq_iinc rfl ?_ | refine wq_goto ?_ | refine wq_k rfl ?_ | refine wq_b rfl rfl ?_ | refine wq_getf (by assumption) rfl ?_ | refine wq_alen (by assumption) rfl ?_ | (refine wq_eq ⟨by omega, by omega⟩ ⟨by omega, by omega⟩ (fun _ => ?_) (fun _ => ?_) <;> try (exfalso; omega)) | (refine wq_ne ⟨by omega, by omega⟩ ⟨by omega, by omega⟩ (fun _ => ?_) (fun _ => ?_) <;> try (exfalso; omega)) | (refine wq_lt ⟨by omega, by omega⟩ ⟨by omega, by omega⟩ (fun _ => ?_) (fun _ => ?_) <;> try (exfalso; omega)) | (refine wq_ge ⟨by omega, by omega⟩ ⟨by omega, by omega⟩ (fun _ => ?_) (fun _ => ?_) <;> try (exfalso; omega)) | (refine wq_gt ⟨by omega, by omega⟩ ⟨by omega, by omega⟩ (fun _ => ?_) (fun _ => ?_) <;> try (exfalso; omega)) | (refine wq_le ⟨by omega, by omega⟩ ⟨by omega, by omega⟩ (fun _ => ?_) (fun _ => ?_) <;> try (exfalso; omega)) | (refine wq_ifeq ⟨by omega, by omega⟩ (fun _ => ?_) (fun _ => ?_) <;> try (exfalso; omega)) | (refine wq_ifne ⟨by omega, by omega⟩ (fun _ => ?_) (fun _ => ?_) <;> try (exfalso; omega)) | (refine wq_iflt ⟨by omega, by omega⟩ (fun _ => ?_) (fun _ => ?_) <;> try (exfalso; omega)) | (refine wq_ifge ⟨by omega, by omega⟩ (fun _ => ?_) (fun _ => ?_) <;> try (exfalso; omega)) | (refine wq_ifgt ⟨by omega, by omega⟩ (fun _ => ?_) (fun _ => ?_) <;> try (exfalso; omega)) | (refine wq_ifle ⟨by omega, by omega⟩ (fun _ => ?_) (fun _ => ?_) <;> try (exfalso; omega)) | refine wq_r rfl rfl rfl rfl rfl rfl ?_)
  · exact ⟨by rw [if_neg (by omega)], rfl⟩
  · exact ⟨by rw [if_neg (by omega)], rfl⟩
  · exact ⟨by rw [if_pos (by omega)], rfl⟩
theorem c_Gr_hasPlace {k : Int} (hk : inR k) (hW : inR W) (h : Gm M g N p X mn lt dp us W) : Wm 7 [.ref g, .int (I k)] M (fun v M' => v = some (.int (I (if 0 ≤ k ∧ k < W then 1 else 0))) ∧ M' = M) := by
  obtain ⟨hk1, hk2⟩ := hk
  obtain ⟨hW1, hW2⟩ := hW
  have h1 := h.obj
  refine wm_in (lv := _) rfl rfl rfl ?_
  repeat' (refine wf rfl ?_; first | refine wq_iadd ?_ | refine wq_isub ?_ | refine wq_imul ?_ | refine wq_iinc rfl ?_ | refine wq_goto ?_ | refine wq_k rfl ?_ | refine wq_b rfl rfl ?_ | refine wq_getf (by assumption) rfl ?_ | refine wq_alen (by assumption) rfl ?_ | (refine wq_eq ⟨by omega, by omega⟩ ⟨by omega, by omega⟩ (fun _ => ?_) (fun _ => ?_) <;> try (exfalso; omega)) | (refine wq_ne ⟨by omega, by omega⟩ ⟨by omega, by omega⟩ (fun _ => ?_) (fun _ => ?_) <;> try (exfalso; omega)) | (refine wq_lt ⟨by omega, by omega⟩ ⟨by omega, by omega⟩ (fun _ => ?_) (fun _ => ?_) <;> try (exfalso; omega)) | (refine wq_ge ⟨by omega, by omega⟩ ⟨by omega, by omega⟩ (fun _ => ?_) (fun _ => ?_) <;> try (exfalso; omega)) | (refine wq_gt ⟨by omega, by omega⟩ ⟨by omega, by omega⟩ (fun _ => ?_) (fun _ => ?_) <;> try (exfalso; omega)) | (refine wq_le ⟨by omega, by omega⟩ ⟨by omega, by omega⟩ (fun _ => ?_) (fun _ => ?_) <;> try (exfalso; omega)) | (refine wq_ifeq ⟨by omega, by omega⟩ (fun _ => ?_) (fun _ => ?_) <;> try (exfalso; omega)) | (refine wq_ifne ⟨by omega, by omega⟩ (fun _ => ?_) (fun _ => ?_) <;> try (exfalso; omega)) | (refine wq_iflt ⟨by omega, by omega⟩ (fun _ => ?_) (fun _ => ?_) <;> try (exfalso; omega)) | (refine wq_ifge ⟨by omega, by omega⟩ (fun _ => ?_) (fun _ => ?_) <;> try (exfalso; omega)) | (refine wq_ifgt ⟨by omega, by omega⟩ (fun _ => ?_) (fun _ => ?_) <;> try (exfalso; omega)) | (refine wq_ifle ⟨by omega, by omega⟩ (fun _ => ?_) (fun _ => ?_) <;> try (exfalso; omega)) | refine wq_r rfl rfl rfl rfl rfl rfl ?_)
  · exact ⟨by rw [if_neg (by omega)], rfl⟩
  · exact ⟨by rw [if_neg (by omega)], rfl⟩
  · exact ⟨by rw [if_pos (by omega)], rfl⟩
theorem c_Gr_hasSymbol {k : Int} (hk : inR k) (h : Gm M g N p X mn lt dp us W) : Wm 5 [.ref g, .int (I k)] M (fun v M' => v = some (.int (I (if 0 ≤ k ∧ k < 8 + N then 1 else 0))) ∧ M' = M) := by
  have hc1 := c_isLetter (M := M) hk
  have hc2 := c_Gr_isRule hk h
  have h1 := h.obj
  refine wm_in (lv := _) rfl rfl rfl ?_
  repeat' (refine wf rfl ?_; first | refine wq_iadd ?_ | refine wq_isub ?_ | refine wq_imul ?_ | refine wq_iinc rfl ?_ | refine wq_goto ?_ | refine wq_k rfl ?_ | refine wq_b rfl rfl ?_ | refine wq_getf (by assumption) rfl ?_ | refine wq_alen (by assumption) rfl ?_ | (refine wq_eq ⟨by omega, by omega⟩ ⟨by omega, by omega⟩ (fun _ => ?_) (fun _ => ?_) <;> try (exfalso; omega)) | (refine wq_ne ⟨by omega, by omega⟩ ⟨by omega, by omega⟩ (fun _ => ?_) (fun _ => ?_) <;> try (exfalso; omega)) | (refine wq_lt ⟨by omega, by omega⟩ ⟨by omega, by omega⟩ (fun _ => ?_) (fun _ => ?_) <;> try (exfalso; omega)) | (refine wq_ge ⟨by omega, by omega⟩ ⟨by omega, by omega⟩ (fun _ => ?_) (fun _ => ?_) <;> try (exfalso; omega)) | (refine wq_gt ⟨by omega, by omega⟩ ⟨by omega, by omega⟩ (fun _ => ?_) (fun _ => ?_) <;> try (exfalso; omega)) | (refine wq_le ⟨by omega, by omega⟩ ⟨by omega, by omega⟩ (fun _ => ?_) (fun _ => ?_) <;> try (exfalso; omega)) | (refine wq_ifeq ⟨by omega, by omega⟩ (fun _ => ?_) (fun _ => ?_) <;> try (exfalso; omega)) | (refine wq_ifne ⟨by omega, by omega⟩ (fun _ => ?_) (fun _ => ?_) <;> try (exfalso; omega)) | (refine wq_iflt ⟨by omega, by omega⟩ (fun _ => ?_) (fun _ => ?_) <;> try (exfalso; omega)) | (refine wq_ifge ⟨by omega, by omega⟩ (fun _ => ?_) (fun _ => ?_) <;> try (exfalso; omega)) | (refine wq_ifgt ⟨by omega, by omega⟩ (fun _ => ?_) (fun _ => ?_) <;> try (exfalso; omega)) | (refine wq_ifle ⟨by omega, by omega⟩ (fun _ => ?_) (fun _ => ?_) <;> try (exfalso; omega)) | refine wq_r rfl rfl rfl rfl rfl rfl ?_)
  refine wf rfl (wq_cs rfl rfl (hc1.mono ?_))
  rintro v M ⟨rfl, rfl⟩
  by_cases q : 0 ≤ k ∧ k < 8
  · rw [if_pos q]
    repeat' (refine wf rfl ?_; first | refine wq_iadd ?_ | refine wq_isub ?_ | refine wq_imul ?_ | refine wq_iinc rfl ?_ | refine wq_goto ?_ | refine wq_k rfl ?_ | refine wq_b rfl rfl ?_ | refine wq_getf (by assumption) rfl ?_ | refine wq_alen (by assumption) rfl ?_ | (refine wq_eq ⟨by omega, by omega⟩ ⟨by omega, by omega⟩ (fun _ => ?_) (fun _ => ?_) <;> try (exfalso; omega)) | (refine wq_ne ⟨by omega, by omega⟩ ⟨by omega, by omega⟩ (fun _ => ?_) (fun _ => ?_) <;> try (exfalso; omega)) | (refine wq_lt ⟨by omega, by omega⟩ ⟨by omega, by omega⟩ (fun _ => ?_) (fun _ => ?_) <;> try (exfalso; omega)) | (refine wq_ge ⟨by omega, by omega⟩ ⟨by omega, by omega⟩ (fun _ => ?_) (fun _ => ?_) <;> try (exfalso; omega)) | (refine wq_gt ⟨by omega, by omega⟩ ⟨by omega, by omega⟩ (fun _ => ?_) (fun _ => ?_) <;> try (exfalso; omega)) | (refine wq_le ⟨by omega, by omega⟩ ⟨by omega, by omega⟩ (fun _ => ?_) (fun _ => ?_) <;> try (exfalso; omega)) | (refine wq_ifeq ⟨by omega, by omega⟩ (fun _ => ?_) (fun _ => ?_) <;> try (exfalso; omega)) | (refine wq_ifne ⟨by omega, by omega⟩ (fun _ => ?_) (fun _ => ?_) <;> try (exfalso; omega)) | (refine wq_iflt ⟨by omega, by omega⟩ (fun _ => ?_) (fun _ => ?_) <;> try (exfalso; omega)) | (refine wq_ifge ⟨by omega, by omega⟩ (fun _ => ?_) (fun _ => ?_) <;> try (exfalso; omega)) | (refine wq_ifgt ⟨by omega, by omega⟩ (fun _ => ?_) (fun _ => ?_) <;> try (exfalso; omega)) | (refine wq_ifle ⟨by omega, by omega⟩ (fun _ => ?_) (fun _ => ?_) <;> try (exfalso; omega)) | refine wq_r rfl rfl rfl rfl rfl rfl ?_)
    exact ⟨by rw [if_pos (by omega)], rfl⟩
  · rw [if_neg q]
    repeat' (refine wf rfl ?_; first | refine wq_iadd ?_ | refine wq_isub ?_ | refine wq_imul ?_ | refine wq_iinc rfl ?_ | refine wq_goto ?_ | refine wq_k rfl ?_ | refine wq_b rfl rfl ?_ | refine wq_getf (by assumption) rfl ?_ | refine wq_alen (by assumption) rfl ?_ | (refine wq_eq ⟨by omega, by omega⟩ ⟨by omega, by omega⟩ (fun _ => ?_) (fun _ => ?_) <;> try (exfalso; omega)) | (refine wq_ne ⟨by omega, by omega⟩ ⟨by omega, by omega⟩ (fun _ => ?_) (fun _ => ?_) <;> try (exfalso; omega)) | (refine wq_lt ⟨by omega, by omega⟩ ⟨by omega, by omega⟩ (fun _ => ?_) (fun _ => ?_) <;> try (exfalso; omega)) | (refine wq_ge ⟨by omega, by omega⟩ ⟨by omega, by omega⟩ (fun _ => ?_) (fun _ => ?_) <;> try (exfalso; omega)) | (refine wq_gt ⟨by omega, by omega⟩ ⟨by omega, by omega⟩ (fun _ => ?_) (fun _ => ?_) <;> try (exfalso; omega)) | (refine wq_le ⟨by omega, by omega⟩ ⟨by omega, by omega⟩ (fun _ => ?_) (fun _ => ?_) <;> try (exfalso; omega)) | (refine wq_ifeq ⟨by omega, by omega⟩ (fun _ => ?_) (fun _ => ?_) <;> try (exfalso; omega)) | (refine wq_ifne ⟨by omega, by omega⟩ (fun _ => ?_) (fun _ => ?_) <;> try (exfalso; omega)) | (refine wq_iflt ⟨by omega, by omega⟩ (fun _ => ?_) (fun _ => ?_) <;> try (exfalso; omega)) | (refine wq_ifge ⟨by omega, by omega⟩ (fun _ => ?_) (fun _ => ?_) <;> try (exfalso; omega)) | (refine wq_ifgt ⟨by omega, by omega⟩ (fun _ => ?_) (fun _ => ?_) <;> try (exfalso; omega)) | (refine wq_ifle ⟨by omega, by omega⟩ (fun _ => ?_) (fun _ => ?_) <;> try (exfalso; omega)) | refine wq_r rfl rfl rfl rfl rfl rfl ?_)
    refine wf rfl (wq_cv rfl rfl rfl h1 (hc2.mono ?_))
    rintro v M ⟨rfl, rfl⟩
    by_cases q2 : 8 ≤ k ∧ k < 8 + N
    · rw [if_pos q2]
      repeat' (refine wf rfl ?_; first | refine wq_iadd ?_ | refine wq_isub ?_ | refine wq_imul ?_ | refine wq_iinc rfl ?_ | refine wq_goto ?_ | refine wq_k rfl ?_ | refine wq_b rfl rfl ?_ | refine wq_getf (by assumption) rfl ?_ | refine wq_alen (by assumption) rfl ?_ | (refine wq_eq ⟨by omega, by omega⟩ ⟨by omega, by omega⟩ (fun _ => ?_) (fun _ => ?_) <;> try (exfalso; omega)) | (refine wq_ne ⟨by omega, by omega⟩ ⟨by omega, by omega⟩ (fun _ => ?_) (fun _ => ?_) <;> try (exfalso; omega)) | (refine wq_lt ⟨by omega, by omega⟩ ⟨by omega, by omega⟩ (fun _ => ?_) (fun _ => ?_) <;> try (exfalso; omega)) | (refine wq_ge ⟨by omega, by omega⟩ ⟨by omega, by omega⟩ (fun _ => ?_) (fun _ => ?_) <;> try (exfalso; omega)) | (refine wq_gt ⟨by omega, by omega⟩ ⟨by omega, by omega⟩ (fun _ => ?_) (fun _ => ?_) <;> try (exfalso; omega)) | (refine wq_le ⟨by omega, by omega⟩ ⟨by omega, by omega⟩ (fun _ => ?_) (fun _ => ?_) <;> try (exfalso; omega)) | (refine wq_ifeq ⟨by omega, by omega⟩ (fun _ => ?_) (fun _ => ?_) <;> try (exfalso; omega)) | (refine wq_ifne ⟨by omega, by omega⟩ (fun _ => ?_) (fun _ => ?_) <;> try (exfalso; omega)) | (refine wq_iflt ⟨by omega, by omega⟩ (fun _ => ?_) (fun _ => ?_) <;> try (exfalso; omega)) | (refine wq_ifge ⟨by omega, by omega⟩ (fun _ => ?_) (fun _ => ?_) <;> try (exfalso; omega)) | (refine wq_ifgt ⟨by omega, by omega⟩ (fun _ => ?_) (fun _ => ?_) <;> try (exfalso; omega)) | (refine wq_ifle ⟨by omega, by omega⟩ (fun _ => ?_) (fun _ => ?_) <;> try (exfalso; omega)) | refine wq_r rfl rfl rfl rfl rfl rfl ?_)
      exact ⟨by rw [if_pos (by omega)], rfl⟩
    · rw [if_neg q2]
      repeat' (refine wf rfl ?_; first | refine wq_iadd ?_ | refine wq_isub ?_ | refine wq_imul ?_ | refine wq_iinc rfl ?_ | refine wq_goto ?_ | refine wq_k rfl ?_ | refine wq_b rfl rfl ?_ | refine wq_getf (by assumption) rfl ?_ | refine wq_alen (by assumption) rfl ?_ | (refine wq_eq ⟨by omega, by omega⟩ ⟨by omega, by omega⟩ (fun _ => ?_) (fun _ => ?_) <;> try (exfalso; omega)) | (refine wq_ne ⟨by omega, by omega⟩ ⟨by omega, by omega⟩ (fun _ => ?_) (fun _ => ?_) <;> try (exfalso; omega)) | (refine wq_lt ⟨by omega, by omega⟩ ⟨by omega, by omega⟩ (fun _ => ?_) (fun _ => ?_) <;> try (exfalso; omega)) | (refine wq_ge ⟨by omega, by omega⟩ ⟨by omega, by omega⟩ (fun _ => ?_) (fun _ => ?_) <;> try (exfalso; omega)) | (refine wq_gt ⟨by omega, by omega⟩ ⟨by omega, by omega⟩ (fun _ => ?_) (fun _ => ?_) <;> try (exfalso; omega)) | (refine wq_le ⟨by omega, by omega⟩ ⟨by omega, by omega⟩ (fun _ => ?_) (fun _ => ?_) <;> try (exfalso; omega)) | (refine wq_ifeq ⟨by omega, by omega⟩ (fun _ => ?_) (fun _ => ?_) <;> try (exfalso; omega)) | (refine wq_ifne ⟨by omega, by omega⟩ (fun _ => ?_) (fun _ => ?_) <;> try (exfalso; omega)) | (refine wq_iflt ⟨by omega, by omega⟩ (fun _ => ?_) (fun _ => ?_) <;> try (exfalso; omega)) | (refine wq_ifge ⟨by omega, by omega⟩ (fun _ => ?_) (fun _ => ?_) <;> try (exfalso; omega)) | (refine wq_ifgt ⟨by omega, by omega⟩ (fun _ => ?_) (fun _ => ?_) <;> try (exfalso; omega)) | (refine wq_ifle ⟨by omega, by omega⟩ (fun _ => ?_) (fun _ => ?_) <;> try (exfalso; omega)) | refine wq_r rfl rfl rfl rfl rfl rfl ?_)
      exact ⟨by rw [if_neg (by omega)], rfl⟩
theorem c_Gr_ruleRow {k : Int} (hk : inR k) (h : Gm M g N p X mn lt dp us W) : Wm 9 [.ref g, .int (I k)] M (fun v M' => v = some (.ref (if 0 ≤ k ∧ k < N then p k.toNat else g + 2)) ∧ M' = M) := by
  have hc := c_Gr_hasRule hk h
  obtain ⟨hk1, hk2⟩ := hk
  have h1 := h.obj
  have h2 := h.le
  obtain ⟨-, ⟨f, h3, h4⟩, -⟩ := h
  refine wm_in (lv := _) rfl rfl rfl ?_
  repeat' (refine wf rfl ?_; first | refine wq_iadd ?_ | refine wq_isub ?_ | refine wq_imul ?_ | refine wq_iinc rfl ?_ | refine wq_goto ?_ | refine wq_k rfl ?_ | refine wq_b rfl rfl ?_ | refine wq_getf (by assumption) rfl ?_ | refine wq_alen (by assumption) rfl ?_ | (refine wq_eq ⟨by omega, by omega⟩ ⟨by omega, by omega⟩ (fun _ => ?_) (fun _ => ?_) <;> try (exfalso; omega)) | (refine wq_ne ⟨by omega, by omega⟩ ⟨by omega, by omega⟩ (fun _ => ?_) (fun _ => ?_) <;> try (exfalso; omega)) | (refine wq_lt ⟨by omega, by omega⟩ ⟨by omega, by omega⟩ (fun _ => ?_) (fun _ => ?_) <;> try (exfalso; omega)) | (refine wq_ge ⟨by omega, by omega⟩ ⟨by omega, by omega⟩ (fun _ => ?_) (fun _ => ?_) <;> try (exfalso; omega)) | (refine wq_gt ⟨by omega, by omega⟩ ⟨by omega, by omega⟩ (fun _ => ?_) (fun _ => ?_) <;> try (exfalso; omega)) | (refine wq_le ⟨by omega, by omega⟩ ⟨by omega, by omega⟩ (fun _ => ?_) (fun _ => ?_) <;> try (exfalso; omega)) | (refine wq_ifeq ⟨by omega, by omega⟩ (fun _ => ?_) (fun _ => ?_) <;> try (exfalso; omega)) | (refine wq_ifne ⟨by omega, by omega⟩ (fun _ => ?_) (fun _ => ?_) <;> try (exfalso; omega)) | (refine wq_iflt ⟨by omega, by omega⟩ (fun _ => ?_) (fun _ => ?_) <;> try (exfalso; omega)) | (refine wq_ifge ⟨by omega, by omega⟩ (fun _ => ?_) (fun _ => ?_) <;> try (exfalso; omega)) | (refine wq_ifgt ⟨by omega, by omega⟩ (fun _ => ?_) (fun _ => ?_) <;> try (exfalso; omega)) | (refine wq_ifle ⟨by omega, by omega⟩ (fun _ => ?_) (fun _ => ?_) <;> try (exfalso; omega)) | refine wq_r rfl rfl rfl rfl rfl rfl ?_)
  refine wf rfl (wq_cv rfl rfl rfl h1 (hc.mono ?_))
  rintro v M ⟨rfl, rfl⟩
  by_cases q : 0 ≤ k ∧ k < N
  · rw [if_pos q]
    repeat' (refine wf rfl ?_; first | refine wq_iadd ?_ | refine wq_isub ?_ | refine wq_imul ?_ | refine wq_iinc rfl ?_ | refine wq_goto ?_ | refine wq_k rfl ?_ | refine wq_b rfl rfl ?_ | refine wq_getf (by assumption) rfl ?_ | refine wq_alen (by assumption) rfl ?_ | refine wq_aald h3 rfl ⟨by omega, by omega⟩ (by omega) (by omega) (h4 _ (by omega)) ?_ | (refine wq_eq ⟨by omega, by omega⟩ ⟨by omega, by omega⟩ (fun _ => ?_) (fun _ => ?_) <;> try (exfalso; omega)) | (refine wq_ne ⟨by omega, by omega⟩ ⟨by omega, by omega⟩ (fun _ => ?_) (fun _ => ?_) <;> try (exfalso; omega)) | (refine wq_lt ⟨by omega, by omega⟩ ⟨by omega, by omega⟩ (fun _ => ?_) (fun _ => ?_) <;> try (exfalso; omega)) | (refine wq_ge ⟨by omega, by omega⟩ ⟨by omega, by omega⟩ (fun _ => ?_) (fun _ => ?_) <;> try (exfalso; omega)) | (refine wq_gt ⟨by omega, by omega⟩ ⟨by omega, by omega⟩ (fun _ => ?_) (fun _ => ?_) <;> try (exfalso; omega)) | (refine wq_le ⟨by omega, by omega⟩ ⟨by omega, by omega⟩ (fun _ => ?_) (fun _ => ?_) <;> try (exfalso; omega)) | (refine wq_ifeq ⟨by omega, by omega⟩ (fun _ => ?_) (fun _ => ?_) <;> try (exfalso; omega)) | (refine wq_ifne ⟨by omega, by omega⟩ (fun _ => ?_) (fun _ => ?_) <;> try (exfalso; omega)) | (refine wq_iflt ⟨by omega, by omega⟩ (fun _ => ?_) (fun _ => ?_) <;> try (exfalso; omega)) | (refine wq_ifge ⟨by omega, by omega⟩ (fun _ => ?_) (fun _ => ?_) <;> try (exfalso; omega)) | (refine wq_ifgt ⟨by omega, by omega⟩ (fun _ => ?_) (fun _ => ?_) <;> try (exfalso; omega)) | (refine wq_ifle ⟨by omega, by omega⟩ (fun _ => ?_) (fun _ => ?_) <;> try (exfalso; omega)) | refine wq_r rfl rfl rfl rfl rfl rfl ?_)
    exact ⟨by rw [if_pos q], rfl⟩
  · rw [if_neg q]
    repeat' (refine wf rfl ?_; first | refine wq_iadd ?_ | refine wq_isub ?_ | refine wq_imul ?_ | refine wq_iinc rfl ?_ | refine wq_goto ?_ | refine wq_k rfl ?_ | refine wq_b rfl rfl ?_ | refine wq_getf (by assumption) rfl ?_ | refine wq_alen (by assumption) rfl ?_ | (refine wq_eq ⟨by omega, by omega⟩ ⟨by omega, by omega⟩ (fun _ => ?_) (fun _ => ?_) <;> try (exfalso; omega)) | (refine wq_ne ⟨by omega, by omega⟩ ⟨by omega, by omega⟩ (fun _ => ?_) (fun _ => ?_) <;> try (exfalso; omega)) | (refine wq_lt ⟨by omega, by omega⟩ ⟨by omega, by omega⟩ (fun _ => ?_) (fun _ => ?_) <;> try (exfalso; omega)) | (refine wq_ge ⟨by omega, by omega⟩ ⟨by omega, by omega⟩ (fun _ => ?_) (fun _ => ?_) <;> try (exfalso; omega)) | (refine wq_gt ⟨by omega, by omega⟩ ⟨by omega, by omega⟩ (fun _ => ?_) (fun _ => ?_) <;> try (exfalso; omega)) | (refine wq_le ⟨by omega, by omega⟩ ⟨by omega, by omega⟩ (fun _ => ?_) (fun _ => ?_) <;> try (exfalso; omega)) | (refine wq_ifeq ⟨by omega, by omega⟩ (fun _ => ?_) (fun _ => ?_) <;> try (exfalso; omega)) | (refine wq_ifne ⟨by omega, by omega⟩ (fun _ => ?_) (fun _ => ?_) <;> try (exfalso; omega)) | (refine wq_iflt ⟨by omega, by omega⟩ (fun _ => ?_) (fun _ => ?_) <;> try (exfalso; omega)) | (refine wq_ifge ⟨by omega, by omega⟩ (fun _ => ?_) (fun _ => ?_) <;> try (exfalso; omega)) | (refine wq_ifgt ⟨by omega, by omega⟩ (fun _ => ?_) (fun _ => ?_) <;> try (exfalso; omega)) | (refine wq_ifle ⟨by omega, by omega⟩ (fun _ => ?_) (fun _ => ?_) <;> try (exfalso; omega)) | refine wq_r rfl rfl rfl rfl rfl rfl ?_)
    exact ⟨by rw [if_neg q], rfl⟩
theorem c_Gr_lettersOfRule {k : Int} (hk : inR k) (h : Gm M g N p X mn lt dp us W) : Wm 12 [.ref g, .int (I k)] M (fun v M' => v = some (.int (I (if 0 ≤ k ∧ k < N then lt k.toNat else 0))) ∧ M' = M) := by
  have hc := c_Gr_hasRule hk h
  obtain ⟨hk1, hk2⟩ := hk
  have h1 := h.obj
  have h2 := h.le
  obtain ⟨-, -, -, h3, h4, h5, -⟩ := h
  refine wm_in (lv := _) rfl rfl rfl ?_
  repeat' (refine wf rfl ?_; first | refine wq_iadd ?_ | refine wq_isub ?_ | refine wq_imul ?_ | refine wq_iinc rfl ?_ | refine wq_goto ?_ | refine wq_k rfl ?_ | refine wq_b rfl rfl ?_ | refine wq_getf (by assumption) rfl ?_ | refine wq_alen (by assumption) rfl ?_ | (refine wq_eq ⟨by omega, by omega⟩ ⟨by omega, by omega⟩ (fun _ => ?_) (fun _ => ?_) <;> try (exfalso; omega)) | (refine wq_ne ⟨by omega, by omega⟩ ⟨by omega, by omega⟩ (fun _ => ?_) (fun _ => ?_) <;> try (exfalso; omega)) | (refine wq_lt ⟨by omega, by omega⟩ ⟨by omega, by omega⟩ (fun _ => ?_) (fun _ => ?_) <;> try (exfalso; omega)) | (refine wq_ge ⟨by omega, by omega⟩ ⟨by omega, by omega⟩ (fun _ => ?_) (fun _ => ?_) <;> try (exfalso; omega)) | (refine wq_gt ⟨by omega, by omega⟩ ⟨by omega, by omega⟩ (fun _ => ?_) (fun _ => ?_) <;> try (exfalso; omega)) | (refine wq_le ⟨by omega, by omega⟩ ⟨by omega, by omega⟩ (fun _ => ?_) (fun _ => ?_) <;> try (exfalso; omega)) | (refine wq_ifeq ⟨by omega, by omega⟩ (fun _ => ?_) (fun _ => ?_) <;> try (exfalso; omega)) | (refine wq_ifne ⟨by omega, by omega⟩ (fun _ => ?_) (fun _ => ?_) <;> try (exfalso; omega)) | (refine wq_iflt ⟨by omega, by omega⟩ (fun _ => ?_) (fun _ => ?_) <;> try (exfalso; omega)) | (refine wq_ifge ⟨by omega, by omega⟩ (fun _ => ?_) (fun _ => ?_) <;> try (exfalso; omega)) | (refine wq_ifgt ⟨by omega, by omega⟩ (fun _ => ?_) (fun _ => ?_) <;> try (exfalso; omega)) | (refine wq_ifle ⟨by omega, by omega⟩ (fun _ => ?_) (fun _ => ?_) <;> try (exfalso; omega)) | refine wq_r rfl rfl rfl rfl rfl rfl ?_)
  refine wf rfl (wq_cv rfl rfl rfl h1 (hc.mono ?_))
  rintro v M ⟨rfl, rfl⟩
  by_cases q : 0 ≤ k ∧ k < N
  · rw [if_pos q]
    repeat' (refine wf rfl ?_; first | refine wq_iadd ?_ | refine wq_isub ?_ | refine wq_imul ?_ | refine wq_iinc rfl ?_ | refine wq_goto ?_ | refine wq_k rfl ?_ | refine wq_b rfl rfl ?_ | refine wq_getf (by assumption) rfl ?_ | refine wq_alen (by assumption) rfl ?_ | refine wq_iald h3 ⟨by omega, by omega⟩ (by omega) (by omega) ?_ | (refine wq_eq ⟨by omega, by omega⟩ ⟨by omega, by omega⟩ (fun _ => ?_) (fun _ => ?_) <;> try (exfalso; omega)) | (refine wq_ne ⟨by omega, by omega⟩ ⟨by omega, by omega⟩ (fun _ => ?_) (fun _ => ?_) <;> try (exfalso; omega)) | (refine wq_lt ⟨by omega, by omega⟩ ⟨by omega, by omega⟩ (fun _ => ?_) (fun _ => ?_) <;> try (exfalso; omega)) | (refine wq_ge ⟨by omega, by omega⟩ ⟨by omega, by omega⟩ (fun _ => ?_) (fun _ => ?_) <;> try (exfalso; omega)) | (refine wq_gt ⟨by omega, by omega⟩ ⟨by omega, by omega⟩ (fun _ => ?_) (fun _ => ?_) <;> try (exfalso; omega)) | (refine wq_le ⟨by omega, by omega⟩ ⟨by omega, by omega⟩ (fun _ => ?_) (fun _ => ?_) <;> try (exfalso; omega)) | (refine wq_ifeq ⟨by omega, by omega⟩ (fun _ => ?_) (fun _ => ?_) <;> try (exfalso; omega)) | (refine wq_ifne ⟨by omega, by omega⟩ (fun _ => ?_) (fun _ => ?_) <;> try (exfalso; omega)) | (refine wq_iflt ⟨by omega, by omega⟩ (fun _ => ?_) (fun _ => ?_) <;> try (exfalso; omega)) | (refine wq_ifge ⟨by omega, by omega⟩ (fun _ => ?_) (fun _ => ?_) <;> try (exfalso; omega)) | (refine wq_ifgt ⟨by omega, by omega⟩ (fun _ => ?_) (fun _ => ?_) <;> try (exfalso; omega)) | (refine wq_ifle ⟨by omega, by omega⟩ (fun _ => ?_) (fun _ => ?_) <;> try (exfalso; omega)) | refine wq_r rfl rfl rfl rfl rfl rfl ?_)
    exact ⟨by rw [if_pos q], rfl⟩
  · rw [if_neg q]
    repeat' (refine wf rfl ?_; first | refine wq_iadd ?_ | refine wq_isub ?_ | refine wq_imul ?_ | refine wq_iinc rfl ?_ | refine wq_goto ?_ | refine wq_k rfl ?_ | refine wq_b rfl rfl ?_ | refine wq_getf (by assumption) rfl ?_ | refine wq_alen (by assumption) rfl ?_ | (refine wq_eq ⟨by omega, by omega⟩ ⟨by omega, by omega⟩ (fun _ => ?_) (fun _ => ?_) <;> try (exfalso; omega)) | (refine wq_ne ⟨by omega, by omega⟩ ⟨by omega, by omega⟩ (fun _ => ?_) (fun _ => ?_) <;> try (exfalso; omega)) | (refine wq_lt ⟨by omega, by omega⟩ ⟨by omega, by omega⟩ (fun _ => ?_) (fun _ => ?_) <;> try (exfalso; omega)) | (refine wq_ge ⟨by omega, by omega⟩ ⟨by omega, by omega⟩ (fun _ => ?_) (fun _ => ?_) <;> try (exfalso; omega)) | (refine wq_gt ⟨by omega, by omega⟩ ⟨by omega, by omega⟩ (fun _ => ?_) (fun _ => ?_) <;> try (exfalso; omega)) | (refine wq_le ⟨by omega, by omega⟩ ⟨by omega, by omega⟩ (fun _ => ?_) (fun _ => ?_) <;> try (exfalso; omega)) | (refine wq_ifeq ⟨by omega, by omega⟩ (fun _ => ?_) (fun _ => ?_) <;> try (exfalso; omega)) | (refine wq_ifne ⟨by omega, by omega⟩ (fun _ => ?_) (fun _ => ?_) <;> try (exfalso; omega)) | (refine wq_iflt ⟨by omega, by omega⟩ (fun _ => ?_) (fun _ => ?_) <;> try (exfalso; omega)) | (refine wq_ifge ⟨by omega, by omega⟩ (fun _ => ?_) (fun _ => ?_) <;> try (exfalso; omega)) | (refine wq_ifgt ⟨by omega, by omega⟩ (fun _ => ?_) (fun _ => ?_) <;> try (exfalso; omega)) | (refine wq_ifle ⟨by omega, by omega⟩ (fun _ => ?_) (fun _ => ?_) <;> try (exfalso; omega)) | refine wq_r rfl rfl rfl rfl rfl rfl ?_)
    exact ⟨by rw [if_neg q], rfl⟩
theorem c_Gr_depthOfRule {k : Int} (hk : inR k) (h : Gm M g N p X mn lt dp us W) : Wm 13 [.ref g, .int (I k)] M (fun v M' => v = some (.int (I (if 0 ≤ k ∧ k < N then dp k.toNat else 0))) ∧ M' = M) := by
  have hc := c_Gr_hasRule hk h
  obtain ⟨hk1, hk2⟩ := hk
  have h1 := h.obj
  have h2 := h.le
  obtain ⟨-, -, -, h3, h4, h5, -⟩ := h
  refine wm_in (lv := _) rfl rfl rfl ?_
  repeat' (refine wf rfl ?_; first | refine wq_iadd ?_ | refine wq_isub ?_ | refine wq_imul ?_ | refine wq_iinc rfl ?_ | refine wq_goto ?_ | refine wq_k rfl ?_ | refine wq_b rfl rfl ?_ | refine wq_getf (by assumption) rfl ?_ | refine wq_alen (by assumption) rfl ?_ | (refine wq_eq ⟨by omega, by omega⟩ ⟨by omega, by omega⟩ (fun _ => ?_) (fun _ => ?_) <;> try (exfalso; omega)) | (refine wq_ne ⟨by omega, by omega⟩ ⟨by omega, by omega⟩ (fun _ => ?_) (fun _ => ?_) <;> try (exfalso; omega)) | (refine wq_lt ⟨by omega, by omega⟩ ⟨by omega, by omega⟩ (fun _ => ?_) (fun _ => ?_) <;> try (exfalso; omega)) | (refine wq_ge ⟨by omega, by omega⟩ ⟨by omega, by omega⟩ (fun _ => ?_) (fun _ => ?_) <;> try (exfalso; omega)) | (refine wq_gt ⟨by omega, by omega⟩ ⟨by omega, by omega⟩ (fun _ => ?_) (fun _ => ?_) <;> try (exfalso; omega)) | (refine wq_le ⟨by omega, by omega⟩ ⟨by omega, by omega⟩ (fun _ => ?_) (fun _ => ?_) <;> try (exfalso; omega)) | (refine wq_ifeq ⟨by omega, by omega⟩ (fun _ => ?_) (fun _ => ?_) <;> try (exfalso; omega)) | (refine wq_ifne ⟨by omega, by omega⟩ (fun _ => ?_) (fun _ => ?_) <;> try (exfalso; omega)) | (refine wq_iflt ⟨by omega, by omega⟩ (fun _ => ?_) (fun _ => ?_) <;> try (exfalso; omega)) | (refine wq_ifge ⟨by omega, by omega⟩ (fun _ => ?_) (fun _ => ?_) <;> try (exfalso; omega)) | (refine wq_ifgt ⟨by omega, by omega⟩ (fun _ => ?_) (fun _ => ?_) <;> try (exfalso; omega)) | (refine wq_ifle ⟨by omega, by omega⟩ (fun _ => ?_) (fun _ => ?_) <;> try (exfalso; omega)) | refine wq_r rfl rfl rfl rfl rfl rfl ?_)
  refine wf rfl (wq_cv rfl rfl rfl h1 (hc.mono ?_))
  rintro v M ⟨rfl, rfl⟩
  by_cases q : 0 ≤ k ∧ k < N
  · rw [if_pos q]
    repeat' (refine wf rfl ?_; first | refine wq_iadd ?_ | refine wq_isub ?_ | refine wq_imul ?_ | refine wq_iinc rfl ?_ | refine wq_goto ?_ | refine wq_k rfl ?_ | refine wq_b rfl rfl ?_ | refine wq_getf (by assumption) rfl ?_ | refine wq_alen (by assumption) rfl ?_ | refine wq_iald h4 ⟨by omega, by omega⟩ (by omega) (by omega) ?_ | (refine wq_eq ⟨by omega, by omega⟩ ⟨by omega, by omega⟩ (fun _ => ?_) (fun _ => ?_) <;> try (exfalso; omega)) | (refine wq_ne ⟨by omega, by omega⟩ ⟨by omega, by omega⟩ (fun _ => ?_) (fun _ => ?_) <;> try (exfalso; omega)) | (refine wq_lt ⟨by omega, by omega⟩ ⟨by omega, by omega⟩ (fun _ => ?_) (fun _ => ?_) <;> try (exfalso; omega)) | (refine wq_ge ⟨by omega, by omega⟩ ⟨by omega, by omega⟩ (fun _ => ?_) (fun _ => ?_) <;> try (exfalso; omega)) | (refine wq_gt ⟨by omega, by omega⟩ ⟨by omega, by omega⟩ (fun _ => ?_) (fun _ => ?_) <;> try (exfalso; omega)) | (refine wq_le ⟨by omega, by omega⟩ ⟨by omega, by omega⟩ (fun _ => ?_) (fun _ => ?_) <;> try (exfalso; omega)) | (refine wq_ifeq ⟨by omega, by omega⟩ (fun _ => ?_) (fun _ => ?_) <;> try (exfalso; omega)) | (refine wq_ifne ⟨by omega, by omega⟩ (fun _ => ?_) (fun _ => ?_) <;> try (exfalso; omega)) | (refine wq_iflt ⟨by omega, by omega⟩ (fun _ => ?_) (fun _ => ?_) <;> try (exfalso; omega)) | (refine wq_ifge ⟨by omega, by omega⟩ (fun _ => ?_) (fun _ => ?_) <;> try (exfalso; omega)) | (refine wq_ifgt ⟨by omega, by omega⟩ (fun _ => ?_) (fun _ => ?_) <;> try (exfalso; omega)) | (refine wq_ifle ⟨by omega, by omega⟩ (fun _ => ?_) (fun _ => ?_) <;> try (exfalso; omega)) | refine wq_r rfl rfl rfl rfl rfl rfl ?_)
    exact ⟨by rw [if_pos q], rfl⟩
  · rw [if_neg q]
    repeat' (refine wf rfl ?_; first | refine wq_iadd ?_ | refine wq_isub ?_ | refine wq_imul ?_ | refine wq_iinc rfl ?_ | refine wq_goto ?_ | refine wq_k rfl ?_ | refine wq_b rfl rfl ?_ | refine wq_getf (by assumption) rfl ?_ | refine wq_alen (by assumption) rfl ?_ | (refine wq_eq ⟨by omega, by omega⟩ ⟨by omega, by omega⟩ (fun _ => ?_) (fun _ => ?_) <;> try (exfalso; omega)) | (refine wq_ne ⟨by omega, by omega⟩ ⟨by omega, by omega⟩ (fun _ => ?_) (fun _ => ?_) <;> try (exfalso; omega)) | (refine wq_lt ⟨by omega, by omega⟩ ⟨by omega, by omega⟩ (fun _ => ?_) (fun _ => ?_) <;> try (exfalso; omega)) | (refine wq_ge ⟨by omega, by omega⟩ ⟨by omega, by omega⟩ (fun _ => ?_) (fun _ => ?_) <;> try (exfalso; omega)) | (refine wq_gt ⟨by omega, by omega⟩ ⟨by omega, by omega⟩ (fun _ => ?_) (fun _ => ?_) <;> try (exfalso; omega)) | (refine wq_le ⟨by omega, by omega⟩ ⟨by omega, by omega⟩ (fun _ => ?_) (fun _ => ?_) <;> try (exfalso; omega)) | (refine wq_ifeq ⟨by omega, by omega⟩ (fun _ => ?_) (fun _ => ?_) <;> try (exfalso; omega)) | (refine wq_ifne ⟨by omega, by omega⟩ (fun _ => ?_) (fun _ => ?_) <;> try (exfalso; omega)) | (refine wq_iflt ⟨by omega, by omega⟩ (fun _ => ?_) (fun _ => ?_) <;> try (exfalso; omega)) | (refine wq_ifge ⟨by omega, by omega⟩ (fun _ => ?_) (fun _ => ?_) <;> try (exfalso; omega)) | (refine wq_ifgt ⟨by omega, by omega⟩ (fun _ => ?_) (fun _ => ?_) <;> try (exfalso; omega)) | (refine wq_ifle ⟨by omega, by omega⟩ (fun _ => ?_) (fun _ => ?_) <;> try (exfalso; omega)) | refine wq_r rfl rfl rfl rfl rfl rfl ?_)
    exact ⟨by rw [if_neg q], rfl⟩
theorem c_Gr_usesOf {k : Int} (hk : inR k) (h : Gm M g N p X mn lt dp us W) : Wm 14 [.ref g, .int (I k)] M (fun v M' => v = some (.int (I (if 0 ≤ k ∧ k < N then us k.toNat else 0))) ∧ M' = M) := by
  have hc := c_Gr_hasRule hk h
  obtain ⟨hk1, hk2⟩ := hk
  have h1 := h.obj
  have h2 := h.le
  obtain ⟨-, -, -, h3, h4, h5, -⟩ := h
  refine wm_in (lv := _) rfl rfl rfl ?_
  repeat' (refine wf rfl ?_; first | refine wq_iadd ?_ | refine wq_isub ?_ | refine wq_imul ?_ | refine wq_iinc rfl ?_ | refine wq_goto ?_ | refine wq_k rfl ?_ | refine wq_b rfl rfl ?_ | refine wq_getf (by assumption) rfl ?_ | refine wq_alen (by assumption) rfl ?_ | (refine wq_eq ⟨by omega, by omega⟩ ⟨by omega, by omega⟩ (fun _ => ?_) (fun _ => ?_) <;> try (exfalso; omega)) | (refine wq_ne ⟨by omega, by omega⟩ ⟨by omega, by omega⟩ (fun _ => ?_) (fun _ => ?_) <;> try (exfalso; omega)) | (refine wq_lt ⟨by omega, by omega⟩ ⟨by omega, by omega⟩ (fun _ => ?_) (fun _ => ?_) <;> try (exfalso; omega)) | (refine wq_ge ⟨by omega, by omega⟩ ⟨by omega, by omega⟩ (fun _ => ?_) (fun _ => ?_) <;> try (exfalso; omega)) | (refine wq_gt ⟨by omega, by omega⟩ ⟨by omega, by omega⟩ (fun _ => ?_) (fun _ => ?_) <;> try (exfalso; omega)) | (refine wq_le ⟨by omega, by omega⟩ ⟨by omega, by omega⟩ (fun _ => ?_) (fun _ => ?_) <;> try (exfalso; omega)) | (refine wq_ifeq ⟨by omega, by omega⟩ (fun _ => ?_) (fun _ => ?_) <;> try (exfalso; omega)) | (refine wq_ifne ⟨by omega, by omega⟩ (fun _ => ?_) (fun _ => ?_) <;> try (exfalso; omega)) | (refine wq_iflt ⟨by omega, by omega⟩ (fun _ => ?_) (fun _ => ?_) <;> try (exfalso; omega)) | (refine wq_ifge ⟨by omega, by omega⟩ (fun _ => ?_) (fun _ => ?_) <;> try (exfalso; omega)) | (refine wq_ifgt ⟨by omega, by omega⟩ (fun _ => ?_) (fun _ => ?_) <;> try (exfalso; omega)) | (refine wq_ifle ⟨by omega, by omega⟩ (fun _ => ?_) (fun _ => ?_) <;> try (exfalso; omega)) | refine wq_r rfl rfl rfl rfl rfl rfl ?_)
  refine wf rfl (wq_cv rfl rfl rfl h1 (hc.mono ?_))
  rintro v M ⟨rfl, rfl⟩
  by_cases q : 0 ≤ k ∧ k < N
  · rw [if_pos q]
    repeat' (refine wf rfl ?_; first | refine wq_iadd ?_ | refine wq_isub ?_ | refine wq_imul ?_ | refine wq_iinc rfl ?_ | refine wq_goto ?_ | refine wq_k rfl ?_ | refine wq_b rfl rfl ?_ | refine wq_getf (by assumption) rfl ?_ | refine wq_alen (by assumption) rfl ?_ | refine wq_iald h5 ⟨by omega, by omega⟩ (by omega) (by omega) ?_ | (refine wq_eq ⟨by omega, by omega⟩ ⟨by omega, by omega⟩ (fun _ => ?_) (fun _ => ?_) <;> try (exfalso; omega)) | (refine wq_ne ⟨by omega, by omega⟩ ⟨by omega, by omega⟩ (fun _ => ?_) (fun _ => ?_) <;> try (exfalso; omega)) | (refine wq_lt ⟨by omega, by omega⟩ ⟨by omega, by omega⟩ (fun _ => ?_) (fun _ => ?_) <;> try (exfalso; omega)) | (refine wq_ge ⟨by omega, by omega⟩ ⟨by omega, by omega⟩ (fun _ => ?_) (fun _ => ?_) <;> try (exfalso; omega)) | (refine wq_gt ⟨by omega, by omega⟩ ⟨by omega, by omega⟩ (fun _ => ?_) (fun _ => ?_) <;> try (exfalso; omega)) | (refine wq_le ⟨by omega, by omega⟩ ⟨by omega, by omega⟩ (fun _ => ?_) (fun _ => ?_) <;> try (exfalso; omega)) | (refine wq_ifeq ⟨by omega, by omega⟩ (fun _ => ?_) (fun _ => ?_) <;> try (exfalso; omega)) | (refine wq_ifne ⟨by omega, by omega⟩ (fun _ => ?_) (fun _ => ?_) <;> try (exfalso; omega)) | (refine wq_iflt ⟨by omega, by omega⟩ (fun _ => ?_) (fun _ => ?_) <;> try (exfalso; omega)) | (refine wq_ifge ⟨by omega, by omega⟩ (fun _ => ?_) (fun _ => ?_) <;> try (exfalso; omega)) | (refine wq_ifgt ⟨by omega, by omega⟩ (fun _ => ?_) (fun _ => ?_) <;> try (exfalso; omega)) | (refine wq_ifle ⟨by omega, by omega⟩ (fun _ => ?_) (fun _ => ?_) <;> try (exfalso; omega)) | refine wq_r rfl rfl rfl rfl rfl rfl ?_)
    exact ⟨by rw [if_pos q], rfl⟩
  · rw [if_neg q]
    repeat' (refine wf rfl ?_; first | refine wq_iadd ?_ | refine wq_isub ?_ | refine wq_imul ?_ | refine wq_iinc rfl ?_ | refine wq_goto ?_ | refine wq_k rfl ?_ | refine wq_b rfl rfl ?_ | refine wq_getf (by assumption) rfl ?_ | refine wq_alen (by assumption) rfl ?_ | (refine wq_eq ⟨by omega, by omega⟩ ⟨by omega, by omega⟩ (fun _ => ?_) (fun _ => ?_) <;> try (exfalso; omega)) | (refine wq_ne ⟨by omega, by omega⟩ ⟨by omega, by omega⟩ (fun _ => ?_) (fun _ => ?_) <;> try (exfalso; omega)) | (refine wq_lt ⟨by omega, by omega⟩ ⟨by omega, by omega⟩ (fun _ => ?_) (fun _ => ?_) <;> try (exfalso; omega)) | (refine wq_ge ⟨by omega, by omega⟩ ⟨by omega, by omega⟩ (fun _ => ?_) (fun _ => ?_) <;> try (exfalso; omega)) | (refine wq_gt ⟨by omega, by omega⟩ ⟨by omega, by omega⟩ (fun _ => ?_) (fun _ => ?_) <;> try (exfalso; omega)) | (refine wq_le ⟨by omega, by omega⟩ ⟨by omega, by omega⟩ (fun _ => ?_) (fun _ => ?_) <;> try (exfalso; omega)) | (refine wq_ifeq ⟨by omega, by omega⟩ (fun _ => ?_) (fun _ => ?_) <;> try (exfalso; omega)) | (refine wq_ifne ⟨by omega, by omega⟩ (fun _ => ?_) (fun _ => ?_) <;> try (exfalso; omega)) | (refine wq_iflt ⟨by omega, by omega⟩ (fun _ => ?_) (fun _ => ?_) <;> try (exfalso; omega)) | (refine wq_ifge ⟨by omega, by omega⟩ (fun _ => ?_) (fun _ => ?_) <;> try (exfalso; omega)) | (refine wq_ifgt ⟨by omega, by omega⟩ (fun _ => ?_) (fun _ => ?_) <;> try (exfalso; omega)) | (refine wq_ifle ⟨by omega, by omega⟩ (fun _ => ?_) (fun _ => ?_) <;> try (exfalso; omega)) | refine wq_r rfl rfl rfl rfl rfl rfl ?_)
    exact ⟨by rw [if_neg q], rfl⟩
/-- how many letters a symbol tells, by the numbers of N rules -/
def lsy (N : Nat) (lt : Nat → Int) (s : Int) : Int := if 8 ≤ s ∧ s < 8 + N then lt (s - 8).toNat else 1
theorem c_Gr_lettersOfSymbol {s : Int} (hs : -1000 ≤ s ∧ s ≤ 1000) (h : Gm M g N p X mn lt dp us W) : Wm 15 [.ref g, .int (I s)] M (fun v M' => v = some (.int (I (lsy N lt s))) ∧ M' = M) := by
  obtain ⟨hk1, hk2⟩ := hs
  have h1 := h.obj
  have h2 := h.le
  obtain ⟨-, -, -, h3, -⟩ := h
  unfold lsy
  refine wm_in (lv := _) rfl rfl rfl ?_
  repeat' (refine wf rfl ?_; first | refine wq_iadd ?_ | refine wq_isub ?_ | refine wq_imul ?_ | refine wq_iinc rfl ?_ | refine wq_goto ?_ | refine wq_k rfl ?_ | refine wq_b rfl rfl ?_ | refine wq_getf (by assumption) rfl ?_ | refine wq_alen (by assumption) rfl ?_ | refine wq_iald h3 ⟨by omega, by omega⟩ (by omega) (by omega) ?_ | (refine wq_eq ⟨by omega, by omega⟩ ⟨by omega, by omega⟩ (fun _ => ?_) (fun _ => ?_) <;> try (exfalso; omega)) | (refine wq_ne ⟨by omega, by omega⟩ ⟨by omega, by omega⟩ (fun _ => ?_) (fun _ => ?_) <;> try (exfalso; omega)) | (refine wq_lt ⟨by omega, by omega⟩ ⟨by omega, by omega⟩ (fun _ => ?_) (fun _ => ?_) <;> try (exfalso; omega)) | (refine wq_ge ⟨by omega, by omega⟩ ⟨by omega, by omega⟩ (fun _ => ?_) (fun _ => ?_) <;> try (exfalso; omega)) | (refine wq_gt ⟨by omega, by omega⟩ ⟨by omega, by omega⟩ (fun _ => ?_) (fun _ => ?_) <;> try (exfalso; omega)) | (refine wq_le ⟨by omega, by omega⟩ ⟨by omega, by omega⟩ (fun _ => ?_) (fun _ => ?_) <;> try (exfalso; omega)) | (refine wq_ifeq ⟨by omega, by omega⟩ (fun _ => ?_) (fun _ => ?_) <;> try (exfalso; omega)) | (refine wq_ifne ⟨by omega, by omega⟩ (fun _ => ?_) (fun _ => ?_) <;> try (exfalso; omega)) | (refine wq_iflt ⟨by omega, by omega⟩ (fun _ => ?_) (fun _ => ?_) <;> try (exfalso; omega)) | (refine wq_ifge ⟨by omega, by omega⟩ (fun _ => ?_) (fun _ => ?_) <;> try (exfalso; omega)) | (refine wq_ifgt ⟨by omega, by omega⟩ (fun _ => ?_) (fun _ => ?_) <;> try (exfalso; omega)) | (refine wq_ifle ⟨by omega, by omega⟩ (fun _ => ?_) (fun _ => ?_) <;> try (exfalso; omega)) | refine wq_r rfl rfl rfl rfl rfl rfl ?_)
  · exact ⟨by rw [if_neg (by omega)], rfl⟩
  · exact ⟨by rw [if_neg (by omega)], rfl⟩
  · exact ⟨by rw [if_pos (by omega)], rfl⟩
end GR1
end
section
def sumL (f : Int → Int) : List Int → Int
  | [] => 0
  | x :: r => f x + sumL f r
theorem sumL_app (f : Int → Int) : ∀ xs ys : List Int, sumL f (xs ++ ys) = sumL f xs + sumL f ys
  | [], ys => by simp [sumL]
  | x :: r, ys => by rw [List.cons_append, sumL, sumL, sumL_app f r ys, Int.add_assoc]
theorem sumL_bd {f : Int → Int} : ∀ {xs : List Int}, (∀ s ∈ xs, 0 ≤ f s ∧ f s ≤ 10000) → 0 ≤ sumL f xs ∧ sumL f xs ≤ 10000 * (xs.length : Int)
  | [], _ => by simp [sumL]
  | x :: r, h => by
    have ih := sumL_bd (f := f) (xs := r) (fun s hs => h s (List.mem_cons_of_mem _ hs))
    have hx := h x List.mem_cons_self
    rw [sumL, List.length_cons]
    omega
theorem sumL_take {f : Int → Int} {xs : List Int} {p : Int} (h0 : 0 ≤ p) (h : p < xs.length) : sumL f (xs.take (p + 1).toNat) = sumL f (xs.take p.toNat) + f (rat xs p) := by
  rw [show (p + 1).toNat = p.toNat + 1 by omega, ← take_rat h0 h, sumL_app]
  simp [sumL]
theorem rat_mem {xs : List Int} {p : Int} (h0 : 0 ≤ p) (h : p < xs.length) : rat xs p ∈ xs := by
  rw [rat_in h0 (List.getElem?_eq_getElem (l := xs) (i := p.toNat) (by omega))]
  exact List.getElem_mem _
section GR2
variable {M : PM} {g N : Nat} {p : Nat → Nat} {X : Nat → List Int} {mn : List Int} {lt dp us : Nat → Int} {W : Int} {a : Nat} {xs : List Int}
theorem lp_ahead (h : Gm M g N p X mn lt dp us W) (hr : Rw M a xs) (hb : SB xs) (hf : ∀ s ∈ xs, 0 ≤ lsy N lt s ∧ lsy N lt s ≤ 10000) {q : Int} (hq : inR q) (n : Nat) : ∀ (z k : Int), (0 ≤ k ∧ k ≤ xs.length ∧ xs.length - k < n ∧ (k ≤ q ∨ k = 0) ∧ z = sumL (lsy N lt) (xs.take k.toNat)) →
    Wp k_X0_lettersAhead (5, [(0, .ref g), (1, .ref a), (2, .int (I q)), (3, .int (I z)), (4, .int (I k))], [], M) (fun v M' => v = some (.int (I (min (sumL (lsy N lt) (xs.take q.toNat)) 10000))) ∧ M' = M) := by
  obtain ⟨hq1, hq2⟩ := hq
  have hl := hr.len
  have hg1 := h.obj
  induction n with
  | zero => intro z k hi; exfalso; omega
  | succ n ih =>
    intro z k hi
    obtain ⟨i1, i2, i3, i4, i5⟩ := hi
    have hsz := c_Row_size hr
    have hat := c_Row_at (p := k) ⟨by omega, by omega⟩ hr
    have bd := rat_bd hb k
    have hls := c_Gr_lettersOfSymbol (s := rat xs k) (by omega) h
    have bz := sumL_bd (f := lsy N lt) (xs := xs.take k.toNat) (fun s hs => hf s (List.mem_of_mem_take hs))
    rw [List.length_take] at bz
    have hmin := c_min (M := M) (x := z) (y := 10000) ⟨by omega, by omega⟩ ⟨by omega, by omega⟩
    obtain ⟨gg, h1, h2, h3, h4⟩ := id hr
    have ex : (q ≤ k ∨ (xs.length : Int) ≤ k) → sumL (lsy N lt) (xs.take q.toNat) = z := by
      intro hc
      rw [i5]
      rcases hc with hc | hc
      · congr 2; omega
      · rw [List.take_of_length_le (by omega), List.take_of_length_le (by omega)]
    repeat (refine wf rfl ?_; first | refine wq_iadd ?_ | refine wq_isub ?_ | refine wq_imul ?_ | refine wq_iinc rfl ?_ | refine wq_goto ?_ | refine wq_k rfl ?_ | refine wq_b rfl rfl ?_ | refine wq_getf (by assumption) rfl ?_ | refine wq_alen (by assumption) rfl ?_)
    refine wf rfl (wq_ge ⟨by omega, by omega⟩ ⟨by omega, by omega⟩ (fun c1 => ?_) (fun c1 => ?_))
    · repeat (refine wf rfl ?_; first | refine wq_iadd ?_ | refine wq_isub ?_ | refine wq_imul ?_ | refine wq_iinc rfl ?_ | refine wq_goto ?_ | refine wq_k rfl ?_ | refine wq_b rfl rfl ?_ | refine wq_getf (by assumption) rfl ?_ | refine wq_alen (by assumption) rfl ?_)
      refine wf rfl (wq_cs rfl rfl (hmin.mono ?_))
      rintro v M ⟨rfl, rfl⟩
      repeat' (refine wf rfl ?_; first | refine wq_iadd ?_ | refine wq_isub ?_ | refine wq_imul ?_ | refine wq_iinc rfl ?_ | refine wq_goto ?_ | refine wq_k rfl ?_ | refine wq_b rfl rfl ?_ | refine wq_getf (by assumption) rfl ?_ | refine wq_alen (by assumption) rfl ?_ | (refine wq_eq ⟨by omega, by omega⟩ ⟨by omega, by omega⟩ (fun _ => ?_) (fun _ => ?_) <;> try (exfalso; omega)) | (refine wq_ne ⟨by omega, by omega⟩ ⟨by omega, by omega⟩ (fun _ => ?_) (fun _ => ?_) <;> try (exfalso; omega)) | (refine wq_lt ⟨by omega, by omega⟩ ⟨by omega, by omega⟩ (fun _ => ?_) (fun _ => ?_) <;> try (exfalso; omega)) | (refine wq_ge ⟨by omega, by omega⟩ ⟨by omega, by omega⟩ (fun _ => ?_) (fun _ => ?_) <;> try (exfalso; omega)) | (refine wq_gt ⟨by omega, by omega⟩ ⟨by omega, by omega⟩ (fun _ => ?_) (fun _ => ?_) <;> try (exfalso; omega)) | (refine wq_le ⟨by omega, by omega⟩ ⟨by omega, by omega⟩ (fun _ => ?_) (fun _ => ?_) <;> try (exfalso; omega)) | (refine wq_ifeq ⟨by omega, by omega⟩ (fun _ => ?_) (fun _ => ?_) <;> try (exfalso; omega)) | (refine wq_ifne ⟨by omega, by omega⟩ (fun _ => ?_) (fun _ => ?_) <;> try (exfalso; omega)) | (refine wq_iflt ⟨by omega, by omega⟩ (fun _ => ?_) (fun _ => ?_) <;> try (exfalso; omega)) | (refine wq_ifge ⟨by omega, by omega⟩ (fun _ => ?_) (fun _ => ?_) <;> try (exfalso; omega)) | (refine wq_ifgt ⟨by omega, by omega⟩ (fun _ => ?_) (fun _ => ?_) <;> try (exfalso; omega)) | (refine wq_ifle ⟨by omega, by omega⟩ (fun _ => ?_) (fun _ => ?_) <;> try (exfalso; omega)) | refine wq_r rfl rfl rfl rfl rfl rfl ?_)
      exact ⟨by rw [ex (Or.inl c1)], rfl⟩
    · repeat (refine wf rfl ?_; first | refine wq_iadd ?_ | refine wq_isub ?_ | refine wq_imul ?_ | refine wq_iinc rfl ?_ | refine wq_goto ?_ | refine wq_k rfl ?_ | refine wq_b rfl rfl ?_ | refine wq_getf (by assumption) rfl ?_ | refine wq_alen (by assumption) rfl ?_)
      refine wf rfl (wq_cv rfl rfl rfl h1 (hsz.mono ?_))
      rintro v M ⟨rfl, rfl⟩
      refine wf rfl (wq_ge ⟨by omega, by omega⟩ ⟨by omega, by omega⟩ (fun c2 => ?_) (fun c2 => ?_))
      · repeat (refine wf rfl ?_; first | refine wq_iadd ?_ | refine wq_isub ?_ | refine wq_imul ?_ | refine wq_iinc rfl ?_ | refine wq_goto ?_ | refine wq_k rfl ?_ | refine wq_b rfl rfl ?_ | refine wq_getf (by assumption) rfl ?_ | refine wq_alen (by assumption) rfl ?_)
        refine wf rfl (wq_cs rfl rfl (hmin.mono ?_))
        rintro v M ⟨rfl, rfl⟩
        repeat' (refine wf rfl ?_; first | refine wq_iadd ?_ | refine wq_isub ?_ | refine wq_imul ?_ | refine wq_iinc rfl ?_ | refine wq_goto ?_ | refine wq_k rfl ?_ | refine wq_b rfl rfl ?_ | refine wq_getf (by assumption) rfl ?_ | refine wq_alen (by assumption) rfl ?_ | (refine wq_eq ⟨by omega, by omega⟩ ⟨by omega, by omega⟩ (fun _ => ?_) (fun _ => ?_) <;> try (exfalso; omega)) | (refine wq_ne ⟨by omega, by omega⟩ ⟨by omega, by omega⟩ (fun _ => ?_) (fun _ => ?_) <;> try (exfalso; omega)) | (refine wq_lt ⟨by omega, by omega⟩ ⟨by omega, by omega⟩ (fun _ => ?_) (fun _ => ?_) <;> try (exfalso; omega)) | (refine wq_ge ⟨by omega, by omega⟩ ⟨by omega, by omega⟩ (fun _ => ?_) (fun _ => ?_) <;> try (exfalso; omega)) | (refine wq_gt ⟨by omega, by omega⟩ ⟨by omega, by omega⟩ (fun _ => ?_) (fun _ => ?_) <;> try (exfalso; omega)) | (refine wq_le ⟨by omega, by omega⟩ ⟨by omega, by omega⟩ (fun _ => ?_) (fun _ => ?_) <;> try (exfalso; omega)) | (refine wq_ifeq ⟨by omega, by omega⟩ (fun _ => ?_) (fun _ => ?_) <;> try (exfalso; omega)) | (refine wq_ifne ⟨by omega, by omega⟩ (fun _ => ?_) (fun _ => ?_) <;> try (exfalso; omega)) | (refine wq_iflt ⟨by omega, by omega⟩ (fun _ => ?_) (fun _ => ?_) <;> try (exfalso; omega)) | (refine wq_ifge ⟨by omega, by omega⟩ (fun _ => ?_) (fun _ => ?_) <;> try (exfalso; omega)) | (refine wq_ifgt ⟨by omega, by omega⟩ (fun _ => ?_) (fun _ => ?_) <;> try (exfalso; omega)) | (refine wq_ifle ⟨by omega, by omega⟩ (fun _ => ?_) (fun _ => ?_) <;> try (exfalso; omega)) | refine wq_r rfl rfl rfl rfl rfl rfl ?_)
        exact ⟨by rw [ex (Or.inr c2)], rfl⟩
      · repeat (refine wf rfl ?_; first | refine wq_iadd ?_ | refine wq_isub ?_ | refine wq_imul ?_ | refine wq_iinc rfl ?_ | refine wq_goto ?_ | refine wq_k rfl ?_ | refine wq_b rfl rfl ?_ | refine wq_getf (by assumption) rfl ?_ | refine wq_alen (by assumption) rfl ?_)
        refine wf rfl (wq_cv rfl rfl rfl h1 (hat.mono ?_))
        rintro v M ⟨rfl, rfl⟩
        refine wf rfl (wq_cv rfl rfl rfl hg1 (hls.mono ?_))
        rintro v M ⟨rfl, rfl⟩
        repeat' (first | (refine Wp.sub (ih _ _ ?_) ⟨rfl, rfl, rfl, rfl, rfl, trivial⟩ rfl) | (refine wf rfl ?_; first | refine wq_iadd ?_ | refine wq_isub ?_ | refine wq_imul ?_ | refine wq_iinc rfl ?_ | refine wq_goto ?_ | refine wq_k rfl ?_ | refine wq_b rfl rfl ?_ | refine wq_getf (by assumption) rfl ?_ | refine wq_alen (by assumption) rfl ?_ | fail | (refine wq_eq ⟨by omega, by omega⟩ ⟨by omega, by omega⟩ (fun _ => ?_) (fun _ => ?_) <;> try (exfalso; omega)) | (refine wq_ne ⟨by omega, by omega⟩ ⟨by omega, by omega⟩ (fun _ => ?_) (fun _ => ?_) <;> try (exfalso; omega)) | (refine wq_lt ⟨by omega, by omega⟩ ⟨by omega, by omega⟩ (fun _ => ?_) (fun _ => ?_) <;> try (exfalso; omega)) | (refine wq_ge ⟨by omega, by omega⟩ ⟨by omega, by omega⟩ (fun _ => ?_) (fun _ => ?_) <;> try (exfalso; omega)) | (refine wq_gt ⟨by omega, by omega⟩ ⟨by omega, by omega⟩ (fun _ => ?_) (fun _ => ?_) <;> try (exfalso; omega)) | (refine wq_le ⟨by omega, by omega⟩ ⟨by omega, by omega⟩ (fun _ => ?_) (fun _ => ?_) <;> try (exfalso; omega)) | (refine wq_ifeq ⟨by omega, by omega⟩ (fun _ => ?_) (fun _ => ?_) <;> try (exfalso; omega)) | (refine wq_ifne ⟨by omega, by omega⟩ (fun _ => ?_) (fun _ => ?_) <;> try (exfalso; omega)) | (refine wq_iflt ⟨by omega, by omega⟩ (fun _ => ?_) (fun _ => ?_) <;> try (exfalso; omega)) | (refine wq_ifge ⟨by omega, by omega⟩ (fun _ => ?_) (fun _ => ?_) <;> try (exfalso; omega)) | (refine wq_ifgt ⟨by omega, by omega⟩ (fun _ => ?_) (fun _ => ?_) <;> try (exfalso; omega)) | (refine wq_ifle ⟨by omega, by omega⟩ (fun _ => ?_) (fun _ => ?_) <;> try (exfalso; omega)) | refine wq_r rfl rfl rfl rfl rfl rfl ?_))
        exact ⟨by omega, by omega, by omega, by omega, by rw [sumL_take i1 c2, ← i5]⟩
theorem c_Gr_lettersAhead (h : Gm M g N p X mn lt dp us W) (hr : Rw M a xs) (hb : SB xs) (hf : ∀ s ∈ xs, 0 ≤ lsy N lt s ∧ lsy N lt s ≤ 10000) {q : Int} (hq : inR q) : Wm 23 [.ref g, .ref a, .int (I q)] M (fun v M' => v = some (.int (I (min (sumL (lsy N lt) (xs.take q.toNat)) 10000))) ∧ M' = M) := by
  have hl := hr.len
  refine wm_in (lv := _) rfl rfl rfl ?_
  repeat' (first | (refine Wp.sub (lp_ahead h hr hb hf hq 100 _ _ ?_) ⟨rfl, rfl, rfl, rfl, rfl, trivial⟩ rfl) | (refine wf rfl ?_; first | refine wq_iadd ?_ | refine wq_isub ?_ | refine wq_imul ?_ | refine wq_iinc rfl ?_ | refine wq_goto ?_ | refine wq_k rfl ?_ | refine wq_b rfl rfl ?_ | refine wq_getf (by assumption) rfl ?_ | refine wq_alen (by assumption) rfl ?_ | fail | (refine wq_eq ⟨by omega, by omega⟩ ⟨by omega, by omega⟩ (fun _ => ?_) (fun _ => ?_) <;> try (exfalso; omega)) | (refine wq_ne ⟨by omega, by omega⟩ ⟨by omega, by omega⟩ (fun _ => ?_) (fun _ => ?_) <;> try (exfalso; omega)) | (refine wq_lt ⟨by omega, by omega⟩ ⟨by omega, by omega⟩ (fun _ => ?_) (fun _ => ?_) <;> try (exfalso; omega)) | (refine wq_ge ⟨by omega, by omega⟩ ⟨by omega, by omega⟩ (fun _ => ?_) (fun _ => ?_) <;> try (exfalso; omega)) | (refine wq_gt ⟨by omega, by omega⟩ ⟨by omega, by omega⟩ (fun _ => ?_) (fun _ => ?_) <;> try (exfalso; omega)) | (refine wq_le ⟨by omega, by omega⟩ ⟨by omega, by omega⟩ (fun _ => ?_) (fun _ => ?_) <;> try (exfalso; omega)) | (refine wq_ifeq ⟨by omega, by omega⟩ (fun _ => ?_) (fun _ => ?_) <;> try (exfalso; omega)) | (refine wq_ifne ⟨by omega, by omega⟩ (fun _ => ?_) (fun _ => ?_) <;> try (exfalso; omega)) | (refine wq_iflt ⟨by omega, by omega⟩ (fun _ => ?_) (fun _ => ?_) <;> try (exfalso; omega)) | (refine wq_ifge ⟨by omega, by omega⟩ (fun _ => ?_) (fun _ => ?_) <;> try (exfalso; omega)) | (refine wq_ifgt ⟨by omega, by omega⟩ (fun _ => ?_) (fun _ => ?_) <;> try (exfalso; omega)) | (refine wq_ifle ⟨by omega, by omega⟩ (fun _ => ?_) (fun _ => ?_) <;> try (exfalso; omega)) | refine wq_r rfl rfl rfl rfl rfl rfl ?_))
  exact ⟨by omega, by omega, by omega, by omega, by simp [sumL]⟩
/-- where the symbol stands that tells a place -/
def posL (f : Int → Int) : List Int → Int → Int
  | [], _ => 0
  | x :: r, q => if q < f x then 0 else 1 + posL f r (q - f x)
theorem posL_bd (f : Int → Int) : ∀ (xs : List Int) (q : Int), 0 ≤ posL f xs q ∧ posL f xs q ≤ xs.length
  | [], _ => by simp [posL]
  | x :: r, q => by
    have ih := posL_bd f r (q - f x)
    rw [posL, List.length_cons]
    split <;> omega
theorem lp_pos (h : Gm M g N p X mn lt dp us W) (hr : Rw M a xs) (hb : SB xs) (hf : ∀ s ∈ xs, 0 ≤ lsy N lt s ∧ lsy N lt s ≤ 10000) {q : Int} (hq : inR q) (n : Nat) : ∀ (z k : Int), (0 ≤ k ∧ k ≤ xs.length ∧ xs.length - k < n ∧ z = sumL (lsy N lt) (xs.take k.toNat) ∧ k + posL (lsy N lt) (xs.drop k.toNat) (q - z) = posL (lsy N lt) xs q) →
    Wp k_X0_positionOf (5, [(0, .ref g), (1, .ref a), (2, .int (I q)), (3, .int (I z)), (4, .int (I k))], [], M) (fun v M' => v = some (.int (I (posL (lsy N lt) xs q))) ∧ M' = M) := by
  obtain ⟨hq1, hq2⟩ := hq
  have hl := hr.len
  have hg1 := h.obj
  induction n with
  | zero => intro z k hi; exfalso; omega
  | succ n ih =>
    intro z k hi
    obtain ⟨i1, i2, i3, i5, i6⟩ := hi
    have hsz := c_Row_size hr
    have hat := c_Row_at (p := k) ⟨by omega, by omega⟩ hr
    have bd := rat_bd hb k
    have hls := c_Gr_lettersOfSymbol (s := rat xs k) (by omega) h
    have bz := sumL_bd (f := lsy N lt) (xs := xs.take k.toNat) (fun s hs => hf s (List.mem_of_mem_take hs))
    rw [List.length_take] at bz
    obtain ⟨gg, h1, h2, h3, h4⟩ := id hr
    repeat (refine wf rfl ?_; first | refine wq_iadd ?_ | refine wq_isub ?_ | refine wq_imul ?_ | refine wq_iinc rfl ?_ | refine wq_goto ?_ | refine wq_k rfl ?_ | refine wq_b rfl rfl ?_ | refine wq_getf (by assumption) rfl ?_ | refine wq_alen (by assumption) rfl ?_)
    refine wf rfl (wq_cv rfl rfl rfl h1 (hsz.mono ?_))
    rintro v M ⟨rfl, rfl⟩
    refine wf rfl (wq_ge ⟨by omega, by omega⟩ ⟨by omega, by omega⟩ (fun c2 => ?_) (fun c2 => ?_))
    · repeat (refine wf rfl ?_; first | refine wq_iadd ?_ | refine wq_isub ?_ | refine wq_imul ?_ | refine wq_iinc rfl ?_ | refine wq_goto ?_ | refine wq_k rfl ?_ | refine wq_b rfl rfl ?_ | refine wq_getf (by assumption) rfl ?_ | refine wq_alen (by assumption) rfl ?_)
      refine wf rfl (wq_cv rfl rfl rfl h1 (hsz.mono ?_))
      rintro v M ⟨rfl, rfl⟩
      repeat' (refine wf rfl ?_; first | refine wq_iadd ?_ | refine wq_isub ?_ | refine wq_imul ?_ | refine wq_iinc rfl ?_ | refine wq_goto ?_ | refine wq_k rfl ?_ | refine wq_b rfl rfl ?_ | refine wq_getf (by assumption) rfl ?_ | refine wq_alen (by assumption) rfl ?_ | (refine wq_eq ⟨by omega, by omega⟩ ⟨by omega, by omega⟩ (fun _ => ?_) (fun _ => ?_) <;> try (exfalso; omega)) | (refine wq_ne ⟨by omega, by omega⟩ ⟨by omega, by omega⟩ (fun _ => ?_) (fun _ => ?_) <;> try (exfalso; omega)) | (refine wq_lt ⟨by omega, by omega⟩ ⟨by omega, by omega⟩ (fun _ => ?_) (fun _ => ?_) <;> try (exfalso; omega)) | (refine wq_ge ⟨by omega, by omega⟩ ⟨by omega, by omega⟩ (fun _ => ?_) (fun _ => ?_) <;> try (exfalso; omega)) | (refine wq_gt ⟨by omega, by omega⟩ ⟨by omega, by omega⟩ (fun _ => ?_) (fun _ => ?_) <;> try (exfalso; omega)) | (refine wq_le ⟨by omega, by omega⟩ ⟨by omega, by omega⟩ (fun _ => ?_) (fun _ => ?_) <;> try (exfalso; omega)) | (refine wq_ifeq ⟨by omega, by omega⟩ (fun _ => ?_) (fun _ => ?_) <;> try (exfalso; omega)) | (refine wq_ifne ⟨by omega, by omega⟩ (fun _ => ?_) (fun _ => ?_) <;> try (exfalso; omega)) | (refine wq_iflt ⟨by omega, by omega⟩ (fun _ => ?_) (fun _ => ?_) <;> try (exfalso; omega)) | (refine wq_ifge ⟨by omega, by omega⟩ (fun _ => ?_) (fun _ => ?_) <;> try (exfalso; omega)) | (refine wq_ifgt ⟨by omega, by omega⟩ (fun _ => ?_) (fun _ => ?_) <;> try (exfalso; omega)) | (refine wq_ifle ⟨by omega, by omega⟩ (fun _ => ?_) (fun _ => ?_) <;> try (exfalso; omega)) | refine wq_r rfl rfl rfl rfl rfl rfl ?_)
      rw [List.drop_eq_nil_of_le (by omega), posL] at i6
      exact ⟨by rw [← i6, show k + 0 = (xs.length : Int) by omega], rfl⟩
    · have bl := hf _ (rat_mem i1 c2)
      have e1 : ((k.toNat : Nat) : Int) = k := by omega
      have hd := drop1 (xs := xs) (p := k.toNat) (by omega)
      rw [e1] at hd
      rw [hd, posL] at i6
      repeat (refine wf rfl ?_; first | refine wq_iadd ?_ | refine wq_isub ?_ | refine wq_imul ?_ | refine wq_iinc rfl ?_ | refine wq_goto ?_ | refine wq_k rfl ?_ | refine wq_b rfl rfl ?_ | refine wq_getf (by assumption) rfl ?_ | refine wq_alen (by assumption) rfl ?_)
      refine wf rfl (wq_cv rfl rfl rfl h1 (hat.mono ?_))
      rintro v M ⟨rfl, rfl⟩
      refine wf rfl (wq_cv rfl rfl rfl hg1 (hls.mono ?_))
      rintro v M ⟨rfl, rfl⟩
      repeat' (first | (refine Wp.sub (ih _ _ ?_) ⟨rfl, rfl, rfl, rfl, rfl, trivial⟩ rfl) | (refine wf rfl ?_; first | refine wq_iadd ?_ | refine wq_isub ?_ | refine wq_imul ?_ | refine wq_iinc rfl ?_ | refine wq_goto ?_ | refine wq_k rfl ?_ | refine wq_b rfl rfl ?_ | refine wq_getf (by assumption) rfl ?_ | refine wq_alen (by assumption) rfl ?_ | fail | (refine wq_eq ⟨by omega, by omega⟩ ⟨by omega, by omega⟩ (fun _ => ?_) (fun _ => ?_) <;> try (exfalso; omega)) | (refine wq_ne ⟨by omega, by omega⟩ ⟨by omega, by omega⟩ (fun _ => ?_) (fun _ => ?_) <;> try (exfalso; omega)) | (refine wq_lt ⟨by omega, by omega⟩ ⟨by omega, by omega⟩ (fun _ => ?_) (fun _ => ?_) <;> try (exfalso; omega)) | (refine wq_ge ⟨by omega, by omega⟩ ⟨by omega, by omega⟩ (fun _ => ?_) (fun _ => ?_) <;> try (exfalso; omega)) | (refine wq_gt ⟨by omega, by omega⟩ ⟨by omega, by omega⟩ (fun _ => ?_) (fun _ => ?_) <;> try (exfalso; omega)) | (refine wq_le ⟨by omega, by omega⟩ ⟨by omega, by omega⟩ (fun _ => ?_) (fun _ => ?_) <;> try (exfalso; omega)) | (refine wq_ifeq ⟨by omega, by omega⟩ (fun _ => ?_) (fun _ => ?_) <;> try (exfalso; omega)) | (refine wq_ifne ⟨by omega, by omega⟩ (fun _ => ?_) (fun _ => ?_) <;> try (exfalso; omega)) | (refine wq_iflt ⟨by omega, by omega⟩ (fun _ => ?_) (fun _ => ?_) <;> try (exfalso; omega)) | (refine wq_ifge ⟨by omega, by omega⟩ (fun _ => ?_) (fun _ => ?_) <;> try (exfalso; omega)) | (refine wq_ifgt ⟨by omega, by omega⟩ (fun _ => ?_) (fun _ => ?_) <;> try (exfalso; omega)) | (refine wq_ifle ⟨by omega, by omega⟩ (fun _ => ?_) (fun _ => ?_) <;> try (exfalso; omega)) | refine wq_r rfl rfl rfl rfl rfl rfl ?_))
      · rw [if_neg (by omega)] at i6
        refine ⟨by omega, by omega, by omega, by rw [sumL_take i1 c2, ← i5], ?_⟩
        rw [show (k + 1).toNat = k.toNat + 1 by omega, show q - (z + lsy N lt (rat xs k)) = q - z - lsy N lt (rat xs k) by omega]
        omega
      · rw [if_pos (by omega)] at i6
        exact ⟨by rw [← i6, show k + 0 = k by omega], rfl⟩
theorem c_Gr_positionOf (h : Gm M g N p X mn lt dp us W) (hr : Rw M a xs) (hb : SB xs) (hf : ∀ s ∈ xs, 0 ≤ lsy N lt s ∧ lsy N lt s ≤ 10000) {q : Int} (hq : inR q) : Wm 24 [.ref g, .ref a, .int (I q)] M (fun v M' => v = some (.int (I (posL (lsy N lt) xs q))) ∧ M' = M) := by
  have hl := hr.len
  refine wm_in (lv := _) rfl rfl rfl ?_
  repeat' (first | (refine Wp.sub (lp_pos h hr hb hf hq 100 _ _ ?_) ⟨rfl, rfl, rfl, rfl, rfl, trivial⟩ rfl) | (refine wf rfl ?_; first | refine wq_iadd ?_ | refine wq_isub ?_ | refine wq_imul ?_ | refine wq_iinc rfl ?_ | refine wq_goto ?_ | refine wq_k rfl ?_ | refine wq_b rfl rfl ?_ | refine wq_getf (by assumption) rfl ?_ | refine wq_alen (by assumption) rfl ?_ | fail | (refine wq_eq ⟨by omega, by omega⟩ ⟨by omega, by omega⟩ (fun _ => ?_) (fun _ => ?_) <;> try (exfalso; omega)) | (refine wq_ne ⟨by omega, by omega⟩ ⟨by omega, by omega⟩ (fun _ => ?_) (fun _ => ?_) <;> try (exfalso; omega)) | (refine wq_lt ⟨by omega, by omega⟩ ⟨by omega, by omega⟩ (fun _ => ?_) (fun _ => ?_) <;> try (exfalso; omega)) | (refine wq_ge ⟨by omega, by omega⟩ ⟨by omega, by omega⟩ (fun _ => ?_) (fun _ => ?_) <;> try (exfalso; omega)) | (refine wq_gt ⟨by omega, by omega⟩ ⟨by omega, by omega⟩ (fun _ => ?_) (fun _ => ?_) <;> try (exfalso; omega)) | (refine wq_le ⟨by omega, by omega⟩ ⟨by omega, by omega⟩ (fun _ => ?_) (fun _ => ?_) <;> try (exfalso; omega)) | (refine wq_ifeq ⟨by omega, by omega⟩ (fun _ => ?_) (fun _ => ?_) <;> try (exfalso; omega)) | (refine wq_ifne ⟨by omega, by omega⟩ (fun _ => ?_) (fun _ => ?_) <;> try (exfalso; omega)) | (refine wq_iflt ⟨by omega, by omega⟩ (fun _ => ?_) (fun _ => ?_) <;> try (exfalso; omega)) | (refine wq_ifge ⟨by omega, by omega⟩ (fun _ => ?_) (fun _ => ?_) <;> try (exfalso; omega)) | (refine wq_ifgt ⟨by omega, by omega⟩ (fun _ => ?_) (fun _ => ?_) <;> try (exfalso; omega)) | (refine wq_ifle ⟨by omega, by omega⟩ (fun _ => ?_) (fun _ => ?_) <;> try (exfalso; omega)) | refine wq_r rfl rfl rfl rfl rfl rfl ?_))
  exact ⟨by omega, by omega, by omega, by simp [sumL], by simp⟩
/-- how deep a symbol is -/
def dsy (N : Nat) (dp : Nat → Int) (s : Int) : Int := if 8 ≤ s ∧ s < 8 + N then dp (s - 8).toNat else 0
def mxD (f : Int → Int) : List Int → Int
  | [] => 0
  | x :: r => max (f x) (mxD f r)
theorem lp_depth (h : Gm M g N p X mn lt dp us W) (hr : Rw M a xs) (hb : SB xs) (hf : ∀ s ∈ xs, 0 ≤ dsy N dp s ∧ dsy N dp s ≤ 1000) (n : Nat) : ∀ (z k : Int), (0 ≤ k ∧ k ≤ xs.length ∧ xs.length - k < n ∧ 0 ≤ z ∧ z ≤ 1000 ∧ max z (mxD (dsy N dp) (xs.drop k.toNat)) = mxD (dsy N dp) xs) →
    Wp k_X0_depthOfRow (4, [(0, .ref g), (1, .ref a), (2, .int (I z)), (3, .int (I k))], [], M) (fun v M' => v = some (.int (I (mxD (dsy N dp) xs + 1))) ∧ M' = M) := by
  have hl := hr.len
  have hg1 := h.obj
  induction n with
  | zero => intro z k hi; exfalso; omega
  | succ n ih =>
    intro z k hi
    obtain ⟨i1, i2, i3, i4, i5, i6⟩ := hi
    have hsz := c_Row_size hr
    have hat := c_Row_at (p := k) ⟨by omega, by omega⟩ hr
    have bd := rat_bd hb k
    have hls := c_Gr_depthOfRule (k := rat xs k - 8) ⟨by omega, by omega⟩ h
    obtain ⟨gg, h1, h2, h3, h4⟩ := id hr
    repeat (refine wf rfl ?_; first | refine wq_iadd ?_ | refine wq_isub ?_ | refine wq_imul ?_ | refine wq_iinc rfl ?_ | refine wq_goto ?_ | refine wq_k rfl ?_ | refine wq_b rfl rfl ?_ | refine wq_getf (by assumption) rfl ?_ | refine wq_alen (by assumption) rfl ?_)
    refine wf rfl (wq_cv rfl rfl rfl h1 (hsz.mono ?_))
    rintro v M ⟨rfl, rfl⟩
    refine wf rfl (wq_ge ⟨by omega, by omega⟩ ⟨by omega, by omega⟩ (fun c2 => ?_) (fun c2 => ?_))
    · repeat' (refine wf rfl ?_; first | refine wq_iadd ?_ | refine wq_isub ?_ | refine wq_imul ?_ | refine wq_iinc rfl ?_ | refine wq_goto ?_ | refine wq_k rfl ?_ | refine wq_b rfl rfl ?_ | refine wq_getf (by assumption) rfl ?_ | refine wq_alen (by assumption) rfl ?_ | (refine wq_eq ⟨by omega, by omega⟩ ⟨by omega, by omega⟩ (fun _ => ?_) (fun _ => ?_) <;> try (exfalso; omega)) | (refine wq_ne ⟨by omega, by omega⟩ ⟨by omega, by omega⟩ (fun _ => ?_) (fun _ => ?_) <;> try (exfalso; omega)) | (refine wq_lt ⟨by omega, by omega⟩ ⟨by omega, by omega⟩ (fun _ => ?_) (fun _ => ?_) <;> try (exfalso; omega)) | (refine wq_ge ⟨by omega, by omega⟩ ⟨by omega, by omega⟩ (fun _ => ?_) (fun _ => ?_) <;> try (exfalso; omega)) | (refine wq_gt ⟨by omega, by omega⟩ ⟨by omega, by omega⟩ (fun _ => ?_) (fun _ => ?_) <;> try (exfalso; omega)) | (refine wq_le ⟨by omega, by omega⟩ ⟨by omega, by omega⟩ (fun _ => ?_) (fun _ => ?_) <;> try (exfalso; omega)) | (refine wq_ifeq ⟨by omega, by omega⟩ (fun _ => ?_) (fun _ => ?_) <;> try (exfalso; omega)) | (refine wq_ifne ⟨by omega, by omega⟩ (fun _ => ?_) (fun _ => ?_) <;> try (exfalso; omega)) | (refine wq_iflt ⟨by omega, by omega⟩ (fun _ => ?_) (fun _ => ?_) <;> try (exfalso; omega)) | (refine wq_ifge ⟨by omega, by omega⟩ (fun _ => ?_) (fun _ => ?_) <;> try (exfalso; omega)) | (refine wq_ifgt ⟨by omega, by omega⟩ (fun _ => ?_) (fun _ => ?_) <;> try (exfalso; omega)) | (refine wq_ifle ⟨by omega, by omega⟩ (fun _ => ?_) (fun _ => ?_) <;> try (exfalso; omega)) | refine wq_r rfl rfl rfl rfl rfl rfl ?_)
      rw [List.drop_eq_nil_of_le (by omega), mxD] at i6
      exact ⟨by rw [← i6, show max z 0 = z by omega], rfl⟩
    · have bl := hf _ (rat_mem i1 c2)
      have e1 : ((k.toNat : Nat) : Int) = k := by omega
      have hd := drop1 (xs := xs) (p := k.toNat) (by omega)
      rw [e1] at hd
      rw [hd, mxD] at i6
      have ed : (if 0 ≤ rat xs k - 8 ∧ rat xs k - 8 < N then dp (rat xs k - 8).toNat else 0) = dsy N dp (rat xs k) := by
        unfold dsy
        by_cases hq : 8 ≤ rat xs k ∧ rat xs k < 8 + N
        · rw [if_pos hq, if_pos (by omega)]
        · rw [if_neg hq, if_neg (by omega)]
      rw [ed] at hls
      have hmx := c_max (M := M) (x := z) (y := dsy N dp (rat xs k)) ⟨by omega, by omega⟩ ⟨by omega, by omega⟩
      repeat (refine wf rfl ?_; first | refine wq_iadd ?_ | refine wq_isub ?_ | refine wq_imul ?_ | refine wq_iinc rfl ?_ | refine wq_goto ?_ | refine wq_k rfl ?_ | refine wq_b rfl rfl ?_ | refine wq_getf (by assumption) rfl ?_ | refine wq_alen (by assumption) rfl ?_)
      refine wf rfl (wq_cv rfl rfl rfl h1 (hat.mono ?_))
      rintro v M ⟨rfl, rfl⟩
      repeat (refine wf rfl ?_; first | refine wq_iadd ?_ | refine wq_isub ?_ | refine wq_imul ?_ | refine wq_iinc rfl ?_ | refine wq_goto ?_ | refine wq_k rfl ?_ | refine wq_b rfl rfl ?_ | refine wq_getf (by assumption) rfl ?_ | refine wq_alen (by assumption) rfl ?_)
      refine wf rfl (wq_cv rfl rfl rfl hg1 (hls.mono ?_))
      rintro v M ⟨rfl, rfl⟩
      refine wf rfl (wq_cs rfl rfl (hmx.mono ?_))
      rintro v M ⟨rfl, rfl⟩
      repeat' (first | (refine Wp.sub (ih _ _ ?_) ⟨rfl, rfl, rfl, rfl, trivial⟩ rfl) | (refine wf rfl ?_; first | refine wq_iadd ?_ | refine wq_isub ?_ | refine wq_imul ?_ | refine wq_iinc rfl ?_ | refine wq_goto ?_ | refine wq_k rfl ?_ | refine wq_b rfl rfl ?_ | refine wq_getf (by assumption) rfl ?_ | refine wq_alen (by assumption) rfl ?_ | fail | (refine wq_eq ⟨by omega, by omega⟩ ⟨by omega, by omega⟩ (fun _ => ?_) (fun _ => ?_) <;> try (exfalso; omega)) | (refine wq_ne ⟨by omega, by omega⟩ ⟨by omega, by omega⟩ (fun _ => ?_) (fun _ => ?_) <;> try (exfalso; omega)) | (refine wq_lt ⟨by omega, by omega⟩ ⟨by omega, by omega⟩ (fun _ => ?_) (fun _ => ?_) <;> try (exfalso; omega)) | (refine wq_ge ⟨by omega, by omega⟩ ⟨by omega, by omega⟩ (fun _ => ?_) (fun _ => ?_) <;> try (exfalso; omega)) | (refine wq_gt ⟨by omega, by omega⟩ ⟨by omega, by omega⟩ (fun _ => ?_) (fun _ => ?_) <;> try (exfalso; omega)) | (refine wq_le ⟨by omega, by omega⟩ ⟨by omega, by omega⟩ (fun _ => ?_) (fun _ => ?_) <;> try (exfalso; omega)) | (refine wq_ifeq ⟨by omega, by omega⟩ (fun _ => ?_) (fun _ => ?_) <;> try (exfalso; omega)) | (refine wq_ifne ⟨by omega, by omega⟩ (fun _ => ?_) (fun _ => ?_) <;> try (exfalso; omega)) | (refine wq_iflt ⟨by omega, by omega⟩ (fun _ => ?_) (fun _ => ?_) <;> try (exfalso; omega)) | (refine wq_ifge ⟨by omega, by omega⟩ (fun _ => ?_) (fun _ => ?_) <;> try (exfalso; omega)) | (refine wq_ifgt ⟨by omega, by omega⟩ (fun _ => ?_) (fun _ => ?_) <;> try (exfalso; omega)) | (refine wq_ifle ⟨by omega, by omega⟩ (fun _ => ?_) (fun _ => ?_) <;> try (exfalso; omega)) | refine wq_r rfl rfl rfl rfl rfl rfl ?_))
      refine ⟨by omega, by omega, by omega, by omega, by omega, ?_⟩
      rw [show (k + 1).toNat = k.toNat + 1 by omega]
      omega
theorem c_Gr_depthOfRow (h : Gm M g N p X mn lt dp us W) (hr : Rw M a xs) (hb : SB xs) (hf : ∀ s ∈ xs, 0 ≤ dsy N dp s ∧ dsy N dp s ≤ 1000) : Wm 21 [.ref g, .ref a] M (fun v M' => v = some (.int (I (mxD (dsy N dp) xs + 1))) ∧ M' = M) := by
  have hl := hr.len
  have h0 : ∀ ys : List Int, 0 ≤ mxD (dsy N dp) ys := by
    intro ys
    induction ys with
    | nil => simp [mxD]
    | cons y r ih => rw [mxD]; omega
  have := h0 xs
  refine wm_in (lv := _) rfl rfl rfl ?_
  repeat' (first | (refine Wp.sub (lp_depth h hr hb hf 100 _ _ ?_) ⟨rfl, rfl, rfl, rfl, trivial⟩ rfl) | (refine wf rfl ?_; first | refine wq_iadd ?_ | refine wq_isub ?_ | refine wq_imul ?_ | refine wq_iinc rfl ?_ | refine wq_goto ?_ | refine wq_k rfl ?_ | refine wq_b rfl rfl ?_ | refine wq_getf (by assumption) rfl ?_ | refine wq_alen (by assumption) rfl ?_ | fail | (refine wq_eq ⟨by omega, by omega⟩ ⟨by omega, by omega⟩ (fun _ => ?_) (fun _ => ?_) <;> try (exfalso; omega)) | (refine wq_ne ⟨by omega, by omega⟩ ⟨by omega, by omega⟩ (fun _ => ?_) (fun _ => ?_) <;> try (exfalso; omega)) | (refine wq_lt ⟨by omega, by omega⟩ ⟨by omega, by omega⟩ (fun _ => ?_) (fun _ => ?_) <;> try (exfalso; omega)) | (refine wq_ge ⟨by omega, by omega⟩ ⟨by omega, by omega⟩ (fun _ => ?_) (fun _ => ?_) <;> try (exfalso; omega)) | (refine wq_gt ⟨by omega, by omega⟩ ⟨by omega, by omega⟩ (fun _ => ?_) (fun _ => ?_) <;> try (exfalso; omega)) | (refine wq_le ⟨by omega, by omega⟩ ⟨by omega, by omega⟩ (fun _ => ?_) (fun _ => ?_) <;> try (exfalso; omega)) | (refine wq_ifeq ⟨by omega, by omega⟩ (fun _ => ?_) (fun _ => ?_) <;> try (exfalso; omega)) | (refine wq_ifne ⟨by omega, by omega⟩ (fun _ => ?_) (fun _ => ?_) <;> try (exfalso; omega)) | (refine wq_iflt ⟨by omega, by omega⟩ (fun _ => ?_) (fun _ => ?_) <;> try (exfalso; omega)) | (refine wq_ifge ⟨by omega, by omega⟩ (fun _ => ?_) (fun _ => ?_) <;> try (exfalso; omega)) | (refine wq_ifgt ⟨by omega, by omega⟩ (fun _ => ?_) (fun _ => ?_) <;> try (exfalso; omega)) | (refine wq_ifle ⟨by omega, by omega⟩ (fun _ => ?_) (fun _ => ?_) <;> try (exfalso; omega)) | refine wq_r rfl rfl rfl rfl rfl rfl ?_))
  exact ⟨by omega, by omega, by omega, by omega, by omega, by simp; omega⟩
end GR2
end
section
theorem lp_fill {M : PM} {a n : Nat} {f : Nat → Int} {v : Int} (ha : Nat.blt 0 a = true) (hn : n ≤ 100000) (hM : M[a]? = some (aJ n f)) (m : Nat) : ∀ (k : Int) (M1 : PM), (0 ≤ k ∧ k ≤ n ∧ n - k < m ∧ Fr (fun q => q = a) M M1 ∧ ∃ u, M1[a]? = some (aJ n u) ∧ ∀ j : Nat, j < k → u j = v) →
    Wp k_J7_fill_53178 (5, [(0, .ref a), (1, .int (I v)), (2, .int (I k)), (3, .int (I n))], [], M1) (fun w M' => w = none ∧ Fr (fun q => q = a) M M' ∧ ∃ u, M'[a]? = some (aJ n u) ∧ ∀ j, j < n → u j = v) := by
  induction m with
  | zero => intro k M1 hi; exfalso; omega
  | succ m ih =>
    intro k M1 hi
    obtain ⟨i1, i2, i3, i4, u, i5, i6⟩ := hi
    repeat' (refine wf rfl ?_; first | refine wq_iadd ?_ | refine wq_isub ?_ | refine wq_imul ?_ | refine wq_iinc rfl ?_ | refine wq_goto ?_ | refine wq_k rfl ?_ | refine wq_b rfl rfl ?_ | refine wq_getf (by assumption) rfl ?_ | refine wq_alen (by assumption) rfl ?_ | (refine wq_eq ⟨by omega, by omega⟩ ⟨by omega, by omega⟩ (fun _ => ?_) (fun _ => ?_) <;> try (exfalso; omega)) | (refine wq_ne ⟨by omega, by omega⟩ ⟨by omega, by omega⟩ (fun _ => ?_) (fun _ => ?_) <;> try (exfalso; omega)) | (refine wq_lt ⟨by omega, by omega⟩ ⟨by omega, by omega⟩ (fun _ => ?_) (fun _ => ?_) <;> try (exfalso; omega)) | (refine wq_ge ⟨by omega, by omega⟩ ⟨by omega, by omega⟩ (fun _ => ?_) (fun _ => ?_) <;> try (exfalso; omega)) | (refine wq_gt ⟨by omega, by omega⟩ ⟨by omega, by omega⟩ (fun _ => ?_) (fun _ => ?_) <;> try (exfalso; omega)) | (refine wq_le ⟨by omega, by omega⟩ ⟨by omega, by omega⟩ (fun _ => ?_) (fun _ => ?_) <;> try (exfalso; omega)) | (refine wq_ifeq ⟨by omega, by omega⟩ (fun _ => ?_) (fun _ => ?_) <;> try (exfalso; omega)) | (refine wq_ifne ⟨by omega, by omega⟩ (fun _ => ?_) (fun _ => ?_) <;> try (exfalso; omega)) | (refine wq_iflt ⟨by omega, by omega⟩ (fun _ => ?_) (fun _ => ?_) <;> try (exfalso; omega)) | (refine wq_ifge ⟨by omega, by omega⟩ (fun _ => ?_) (fun _ => ?_) <;> try (exfalso; omega)) | (refine wq_ifgt ⟨by omega, by omega⟩ (fun _ => ?_) (fun _ => ?_) <;> try (exfalso; omega)) | (refine wq_ifle ⟨by omega, by omega⟩ (fun _ => ?_) (fun _ => ?_) <;> try (exfalso; omega)) | refine wq_r rfl rfl rfl rfl rfl rfl ?_)
    · exact ⟨rfl, i4, u, i5, fun j hj => i6 j (by omega)⟩
    · refine wf rfl (wq_iast i5 ha ⟨by omega, by omega⟩ (by omega) (by omega) (fun M2 e2 f2 => ?_))
      repeat' (first | (refine Wp.sub (ih _ _ ?_) ⟨rfl, rfl, rfl, rfl, trivial⟩ rfl) | (refine wf rfl ?_; first | refine wq_iadd ?_ | refine wq_isub ?_ | refine wq_imul ?_ | refine wq_iinc rfl ?_ | refine wq_goto ?_ | refine wq_k rfl ?_ | refine wq_b rfl rfl ?_ | refine wq_getf (by assumption) rfl ?_ | refine wq_alen (by assumption) rfl ?_ | fail | (refine wq_eq ⟨by omega, by omega⟩ ⟨by omega, by omega⟩ (fun _ => ?_) (fun _ => ?_) <;> try (exfalso; omega)) | (refine wq_ne ⟨by omega, by omega⟩ ⟨by omega, by omega⟩ (fun _ => ?_) (fun _ => ?_) <;> try (exfalso; omega)) | (refine wq_lt ⟨by omega, by omega⟩ ⟨by omega, by omega⟩ (fun _ => ?_) (fun _ => ?_) <;> try (exfalso; omega)) | (refine wq_ge ⟨by omega, by omega⟩ ⟨by omega, by omega⟩ (fun _ => ?_) (fun _ => ?_) <;> try (exfalso; omega)) | (refine wq_gt ⟨by omega, by omega⟩ ⟨by omega, by omega⟩ (fun _ => ?_) (fun _ => ?_) <;> try (exfalso; omega)) | (refine wq_le ⟨by omega, by omega⟩ ⟨by omega, by omega⟩ (fun _ => ?_) (fun _ => ?_) <;> try (exfalso; omega)) | (refine wq_ifeq ⟨by omega, by omega⟩ (fun _ => ?_) (fun _ => ?_) <;> try (exfalso; omega)) | (refine wq_ifne ⟨by omega, by omega⟩ (fun _ => ?_) (fun _ => ?_) <;> try (exfalso; omega)) | (refine wq_iflt ⟨by omega, by omega⟩ (fun _ => ?_) (fun _ => ?_) <;> try (exfalso; omega)) | (refine wq_ifge ⟨by omega, by omega⟩ (fun _ => ?_) (fun _ => ?_) <;> try (exfalso; omega)) | (refine wq_ifgt ⟨by omega, by omega⟩ (fun _ => ?_) (fun _ => ?_) <;> try (exfalso; omega)) | (refine wq_ifle ⟨by omega, by omega⟩ (fun _ => ?_) (fun _ => ?_) <;> try (exfalso; omega)) | refine wq_r rfl rfl rfl rfl rfl rfl ?_))
      refine ⟨by omega, by omega, by omega, i4.tr f2, _, e2, fun j hj => ?_⟩
      by_cases he : j = k.toNat
      · subst he; rw [upz_at]
      · rw [upz_ne _ _ he]; exact i6 j (by omega)
theorem c_fill {M : PM} {a n : Nat} {f : Nat → Int} {v : Int} (ha : Nat.blt 0 a = true) (hn : n ≤ 100000) (hM : M[a]? = some (aJ n f)) : Wm 191 [.ref a, .int (I v)] M (fun w M' => w = none ∧ Fr (fun q => q = a) M M' ∧ ∃ u, M'[a]? = some (aJ n u) ∧ ∀ j, j < n → u j = v) := by
  refine wm_in (lv := _) rfl rfl rfl ?_
  repeat' (first | (refine Wp.sub (lp_fill ha hn hM (n + 1) _ _ ?_) ⟨rfl, rfl, rfl, rfl, trivial⟩ rfl) | (refine wf rfl ?_; first | refine wq_iadd ?_ | refine wq_isub ?_ | refine wq_imul ?_ | refine wq_iinc rfl ?_ | refine wq_goto ?_ | refine wq_k rfl ?_ | refine wq_b rfl rfl ?_ | refine wq_getf (by assumption) rfl ?_ | refine wq_alen (by assumption) rfl ?_ | fail | (refine wq_eq ⟨by omega, by omega⟩ ⟨by omega, by omega⟩ (fun _ => ?_) (fun _ => ?_) <;> try (exfalso; omega)) | (refine wq_ne ⟨by omega, by omega⟩ ⟨by omega, by omega⟩ (fun _ => ?_) (fun _ => ?_) <;> try (exfalso; omega)) | (refine wq_lt ⟨by omega, by omega⟩ ⟨by omega, by omega⟩ (fun _ => ?_) (fun _ => ?_) <;> try (exfalso; omega)) | (refine wq_ge ⟨by omega, by omega⟩ ⟨by omega, by omega⟩ (fun _ => ?_) (fun _ => ?_) <;> try (exfalso; omega)) | (refine wq_gt ⟨by omega, by omega⟩ ⟨by omega, by omega⟩ (fun _ => ?_) (fun _ => ?_) <;> try (exfalso; omega)) | (refine wq_le ⟨by omega, by omega⟩ ⟨by omega, by omega⟩ (fun _ => ?_) (fun _ => ?_) <;> try (exfalso; omega)) | (refine wq_ifeq ⟨by omega, by omega⟩ (fun _ => ?_) (fun _ => ?_) <;> try (exfalso; omega)) | (refine wq_ifne ⟨by omega, by omega⟩ (fun _ => ?_) (fun _ => ?_) <;> try (exfalso; omega)) | (refine wq_iflt ⟨by omega, by omega⟩ (fun _ => ?_) (fun _ => ?_) <;> try (exfalso; omega)) | (refine wq_ifge ⟨by omega, by omega⟩ (fun _ => ?_) (fun _ => ?_) <;> try (exfalso; omega)) | (refine wq_ifgt ⟨by omega, by omega⟩ (fun _ => ?_) (fun _ => ?_) <;> try (exfalso; omega)) | (refine wq_ifle ⟨by omega, by omega⟩ (fun _ => ?_) (fun _ => ?_) <;> try (exfalso; omega)) | refine wq_r rfl rfl rfl rfl rfl rfl ?_))
  exact ⟨by omega, by omega, by omega, Fr.rf, f, hM, fun j hj => by omega⟩
section GR3
variable {M : PM} {g N : Nat} {p : Nat → Nat} {X : Nat → List Int} {mn : List Int} {lt dp us : Nat → Int} {W : Int} {a : Nat} {xs : List Int}
theorem Gm.upd {M1 : PM} {N' : Nat} {lt' dp' us' : Nat → Int} {W' : Int} (h : Gm M g N p X mn lt dp us W) (f : Fr (fun q => q = g ∨ q = g + 4 ∨ q = g + 5 ∨ q = g + 6) M M1)
    (h0 : M1[g]? = some (.inr (0, [.ref (g + 1), .ref (g + 2), .int (I N'), .ref (g + 4), .ref (g + 5), .ref (g + 6), .int (I W')]))) (h4 : M1[g + 4]? = some (aJ 26 lt')) (h5 : M1[g + 5]? = some (aJ 26 dp')) (h6 : M1[g + 6]? = some (aJ 26 us')) (hN : N' ≤ 26) : Gm M1 g N' p X mn lt' dp' us' W' := by
  obtain ⟨q1, ⟨ff, q2, q3⟩, q4, q5, q6, q7, q8, q9, q10, q11⟩ := h
  refine ⟨h0, ⟨ff, f.at (by omega) q2, q3⟩, q4.fr f (by omega) (by omega), h4, h5, h6, fun k hk => ?_, q9, q10, hN⟩
  obtain ⟨j, hj, e⟩ := q9 k hk
  exact (q8 k hk).fr f (by omega) (by omega)
theorem Gm.newUs (h : Gm M g N p X mn lt dp us W) {M1 : PM} {u : Nat → Int} (f : Fr (fun q => q = g + 6) M M1) (hu : M1[g + 6]? = some (aJ 26 u)) : Gm M1 g N p X mn lt dp u W :=
  h.upd (f.mono (fun q hq => by omega)) (f.at (by omega) h.1) (f.at (by omega) h.2.2.2.1) (f.at (by omega) h.2.2.2.2.1) hu h.le
theorem lp_note (h : Gm M g N p X mn lt dp us W) (hr : Rw M a xs) (ha : a ≠ g + 6 ∧ a + 1 ≠ g + 6) (hb : SB xs) (n : Nat) : ∀ (k : Int) (M1 : PM), (0 ≤ k ∧ k ≤ xs.length ∧ xs.length - k < n ∧ Fr (fun q => q = g + 6) M M1 ∧ ∃ u, M1[g + 6]? = some (aJ 26 u) ∧ ∀ j : Nat, u j + (if j < N then (cntE (8 + (j : Int)) (xs.drop k.toNat) : Int) else 0) = us j + (if j < N then (cntE (8 + (j : Int)) xs : Int) else 0)) →
    Wp k_X0_noteUses (2, [(0, .ref g), (1, .ref a), (2, .int (I k))], [], M1) (fun v M' => v = none ∧ Fr (fun q => q = g + 6) M M' ∧ ∃ u, M'[g + 6]? = some (aJ 26 u) ∧ ∀ j : Nat, u j = us j + (if j < N then (cntE (8 + (j : Int)) xs : Int) else 0)) := by
  have hl := hr.len
  have hN := h.le
  induction n with
  | zero => intro k M1 hi; exfalso; omega
  | succ n ih =>
    intro k M1 hi
    obtain ⟨i1, i2, i3, i4, u, i5, i6⟩ := hi
    have hg := h.newUs i4 i5
    have hr1 := hr.fr i4 ha.1 ha.2
    have hsz := c_Row_size hr1
    have hat := c_Row_at (p := k) ⟨by omega, by omega⟩ hr1
    have bd := rat_bd hb k
    have hls := c_Gr_hasRule (k := rat xs k - 8) ⟨by omega, by omega⟩ hg
    have hg1 := hg.obj
    obtain ⟨gg, h1, h2, h3, h4⟩ := id hr1
    repeat (refine wf rfl ?_; first | refine wq_iadd ?_ | refine wq_isub ?_ | refine wq_imul ?_ | refine wq_iinc rfl ?_ | refine wq_goto ?_ | refine wq_k rfl ?_ | refine wq_b rfl rfl ?_ | refine wq_getf (by assumption) rfl ?_ | refine wq_alen (by assumption) rfl ?_)
    refine wf rfl (wq_cv rfl rfl rfl h1 (hsz.mono ?_))
    rintro v M1 ⟨rfl, rfl⟩
    refine wf rfl (wq_ge ⟨by omega, by omega⟩ ⟨by omega, by omega⟩ (fun c2 => ?_) (fun c2 => ?_))
    · repeat' (refine wf rfl ?_; first | refine wq_iadd ?_ | refine wq_isub ?_ | refine wq_imul ?_ | refine wq_iinc rfl ?_ | refine wq_goto ?_ | refine wq_k rfl ?_ | refine wq_b rfl rfl ?_ | refine wq_getf (by assumption) rfl ?_ | refine wq_alen (by assumption) rfl ?_ | (refine wq_eq ⟨by omega, by omega⟩ ⟨by omega, by omega⟩ (fun _ => ?_) (fun _ => ?_) <;> try (exfalso; omega)) | (refine wq_ne ⟨by omega, by omega⟩ ⟨by omega, by omega⟩ (fun _ => ?_) (fun _ => ?_) <;> try (exfalso; omega)) | (refine wq_lt ⟨by omega, by omega⟩ ⟨by omega, by omega⟩ (fun _ => ?_) (fun _ => ?_) <;> try (exfalso; omega)) | (refine wq_ge ⟨by omega, by omega⟩ ⟨by omega, by omega⟩ (fun _ => ?_) (fun _ => ?_) <;> try (exfalso; omega)) | (refine wq_gt ⟨by omega, by omega⟩ ⟨by omega, by omega⟩ (fun _ => ?_) (fun _ => ?_) <;> try (exfalso; omega)) | (refine wq_le ⟨by omega, by omega⟩ ⟨by omega, by omega⟩ (fun _ => ?_) (fun _ => ?_) <;> try (exfalso; omega)) | (refine wq_ifeq ⟨by omega, by omega⟩ (fun _ => ?_) (fun _ => ?_) <;> try (exfalso; omega)) | (refine wq_ifne ⟨by omega, by omega⟩ (fun _ => ?_) (fun _ => ?_) <;> try (exfalso; omega)) | (refine wq_iflt ⟨by omega, by omega⟩ (fun _ => ?_) (fun _ => ?_) <;> try (exfalso; omega)) | (refine wq_ifge ⟨by omega, by omega⟩ (fun _ => ?_) (fun _ => ?_) <;> try (exfalso; omega)) | (refine wq_ifgt ⟨by omega, by omega⟩ (fun _ => ?_) (fun _ => ?_) <;> try (exfalso; omega)) | (refine wq_ifle ⟨by omega, by omega⟩ (fun _ => ?_) (fun _ => ?_) <;> try (exfalso; omega)) | refine wq_r rfl rfl rfl rfl rfl rfl ?_)
      refine ⟨rfl, i4, u, i5, fun j => ?_⟩
      have := i6 j
      rw [List.drop_eq_nil_of_le (by omega), cntE] at this
      rw [← this]
      split <;> simp
    · have e1 : ((k.toNat : Nat) : Int) = k := by omega
      have hd := drop1 (xs := xs) (p := k.toNat) (by omega)
      rw [e1] at hd
      repeat (refine wf rfl ?_; first | refine wq_iadd ?_ | refine wq_isub ?_ | refine wq_imul ?_ | refine wq_iinc rfl ?_ | refine wq_goto ?_ | refine wq_k rfl ?_ | refine wq_b rfl rfl ?_ | refine wq_getf (by assumption) rfl ?_ | refine wq_alen (by assumption) rfl ?_)
      refine wf rfl (wq_cv rfl rfl rfl h1 (hat.mono ?_))
      rintro v M1 ⟨rfl, rfl⟩
      repeat (refine wf rfl ?_; first | refine wq_iadd ?_ | refine wq_isub ?_ | refine wq_imul ?_ | refine wq_iinc rfl ?_ | refine wq_goto ?_ | refine wq_k rfl ?_ | refine wq_b rfl rfl ?_ | refine wq_getf (by assumption) rfl ?_ | refine wq_alen (by assumption) rfl ?_)
      refine wf rfl (wq_cv rfl rfl rfl hg1 (hls.mono ?_))
      rintro v M1 ⟨rfl, rfl⟩
      by_cases hq : 0 ≤ rat xs k - 8 ∧ rat xs k - 8 < N
      · rw [if_pos hq]
        refine wf rfl (wq_ifeq ⟨by omega, by omega⟩ (fun c3 => by exfalso; omega) (fun c3 => ?_))
        repeat (refine wf rfl ?_; first | refine wq_iadd ?_ | refine wq_isub ?_ | refine wq_imul ?_ | refine wq_iinc rfl ?_ | refine wq_goto ?_ | refine wq_k rfl ?_ | refine wq_b rfl rfl ?_ | refine wq_getf (by assumption) rfl ?_ | refine wq_alen (by assumption) rfl ?_)
        refine wf rfl (wq_iald i5 ⟨by omega, by omega⟩ (by omega) (by omega) ?_)
        repeat (refine wf rfl ?_; first | refine wq_iadd ?_ | refine wq_isub ?_ | refine wq_imul ?_ | refine wq_iinc rfl ?_ | refine wq_goto ?_ | refine wq_k rfl ?_ | refine wq_b rfl rfl ?_ | refine wq_getf (by assumption) rfl ?_ | refine wq_alen (by assumption) rfl ?_)
        refine wf rfl (wq_iast i5 rfl ⟨by omega, by omega⟩ (by omega) (by omega) (fun M2 e2 f2 => ?_))
        repeat' (first | (refine Wp.sub (ih _ _ ?_) ⟨rfl, rfl, rfl, trivial⟩ rfl) | (refine wf rfl ?_; first | refine wq_iadd ?_ | refine wq_isub ?_ | refine wq_imul ?_ | refine wq_iinc rfl ?_ | refine wq_goto ?_ | refine wq_k rfl ?_ | refine wq_b rfl rfl ?_ | refine wq_getf (by assumption) rfl ?_ | refine wq_alen (by assumption) rfl ?_ | fail | (refine wq_eq ⟨by omega, by omega⟩ ⟨by omega, by omega⟩ (fun _ => ?_) (fun _ => ?_) <;> try (exfalso; omega)) | (refine wq_ne ⟨by omega, by omega⟩ ⟨by omega, by omega⟩ (fun _ => ?_) (fun _ => ?_) <;> try (exfalso; omega)) | (refine wq_lt ⟨by omega, by omega⟩ ⟨by omega, by omega⟩ (fun _ => ?_) (fun _ => ?_) <;> try (exfalso; omega)) | (refine wq_ge ⟨by omega, by omega⟩ ⟨by omega, by omega⟩ (fun _ => ?_) (fun _ => ?_) <;> try (exfalso; omega)) | (refine wq_gt ⟨by omega, by omega⟩ ⟨by omega, by omega⟩ (fun _ => ?_) (fun _ => ?_) <;> try (exfalso; omega)) | (refine wq_le ⟨by omega, by omega⟩ ⟨by omega, by omega⟩ (fun _ => ?_) (fun _ => ?_) <;> try (exfalso; omega)) | (refine wq_ifeq ⟨by omega, by omega⟩ (fun _ => ?_) (fun _ => ?_) <;> try (exfalso; omega)) | (refine wq_ifne ⟨by omega, by omega⟩ (fun _ => ?_) (fun _ => ?_) <;> try (exfalso; omega)) | (refine wq_iflt ⟨by omega, by omega⟩ (fun _ => ?_) (fun _ => ?_) <;> try (exfalso; omega)) | (refine wq_ifge ⟨by omega, by omega⟩ (fun _ => ?_) (fun _ => ?_) <;> try (exfalso; omega)) | (refine wq_ifgt ⟨by omega, by omega⟩ (fun _ => ?_) (fun _ => ?_) <;> try (exfalso; omega)) | (refine wq_ifle ⟨by omega, by omega⟩ (fun _ => ?_) (fun _ => ?_) <;> try (exfalso; omega)) | refine wq_r rfl rfl rfl rfl rfl rfl ?_))
        refine ⟨by omega, by omega, by omega, i4.tr f2, _, e2, fun j => ?_⟩
        have := i6 j
        rw [hd, cntE] at this
        rw [← this, show (k + 1).toNat = k.toNat + 1 by omega]
        by_cases hj : j < N
        · rw [if_pos hj, if_pos hj]
          by_cases he : j = (rat xs k - 8).toNat
          · subst he
            rw [upz_at, if_pos (by omega)]
            omega
          · rw [upz_ne _ _ he, if_neg (by omega)]
            omega
        · rw [if_neg hj, if_neg hj, upz_ne _ _ (by omega)]
      · rw [if_neg hq]
        refine wf rfl (wq_ifeq ⟨by omega, by omega⟩ (fun c3 => ?_) (fun c3 => absurd rfl c3))
        repeat' (first | (refine Wp.sub (ih _ _ ?_) ⟨rfl, rfl, rfl, trivial⟩ rfl) | (refine wf rfl ?_; first | refine wq_iadd ?_ | refine wq_isub ?_ | refine wq_imul ?_ | refine wq_iinc rfl ?_ | refine wq_goto ?_ | refine wq_k rfl ?_ | refine wq_b rfl rfl ?_ | refine wq_getf (by assumption) rfl ?_ | refine wq_alen (by assumption) rfl ?_ | fail | (refine wq_eq ⟨by omega, by omega⟩ ⟨by omega, by omega⟩ (fun _ => ?_) (fun _ => ?_) <;> try (exfalso; omega)) | (refine wq_ne ⟨by omega, by omega⟩ ⟨by omega, by omega⟩ (fun _ => ?_) (fun _ => ?_) <;> try (exfalso; omega)) | (refine wq_lt ⟨by omega, by omega⟩ ⟨by omega, by omega⟩ (fun _ => ?_) (fun _ => ?_) <;> try (exfalso; omega)) | (refine wq_ge ⟨by omega, by omega⟩ ⟨by omega, by omega⟩ (fun _ => ?_) (fun _ => ?_) <;> try (exfalso; omega)) | (refine wq_gt ⟨by omega, by omega⟩ ⟨by omega, by omega⟩ (fun _ => ?_) (fun _ => ?_) <;> try (exfalso; omega)) | (refine wq_le ⟨by omega, by omega⟩ ⟨by omega, by omega⟩ (fun _ => ?_) (fun _ => ?_) <;> try (exfalso; omega)) | (refine wq_ifeq ⟨by omega, by omega⟩ (fun _ => ?_) (fun _ => ?_) <;> try (exfalso; omega)) | (refine wq_ifne ⟨by omega, by omega⟩ (fun _ => ?_) (fun _ => ?_) <;> try (exfalso; omega)) | (refine wq_iflt ⟨by omega, by omega⟩ (fun _ => ?_) (fun _ => ?_) <;> try (exfalso; omega)) | (refine wq_ifge ⟨by omega, by omega⟩ (fun _ => ?_) (fun _ => ?_) <;> try (exfalso; omega)) | (refine wq_ifgt ⟨by omega, by omega⟩ (fun _ => ?_) (fun _ => ?_) <;> try (exfalso; omega)) | (refine wq_ifle ⟨by omega, by omega⟩ (fun _ => ?_) (fun _ => ?_) <;> try (exfalso; omega)) | refine wq_r rfl rfl rfl rfl rfl rfl ?_))
        refine ⟨by omega, by omega, by omega, i4, u, i5, fun j => ?_⟩
        have := i6 j
        rw [hd, cntE] at this
        rw [← this, show (k + 1).toNat = k.toNat + 1 by omega]
        by_cases hj : j < N
        · rw [if_pos hj, if_pos hj, if_neg (by omega)]
          omega
        · rw [if_neg hj, if_neg hj]
theorem c_Gr_noteUses (h : Gm M g N p X mn lt dp us W) (hr : Rw M a xs) (ha : a ≠ g + 6 ∧ a + 1 ≠ g + 6) (hb : SB xs) : Wm 22 [.ref g, .ref a] M (fun v M' => v = none ∧ Fr (fun q => q = g + 6) M M' ∧ ∃ u, M'[g + 6]? = some (aJ 26 u) ∧ ∀ j : Nat, u j = us j + (if j < N then (cntE (8 + (j : Int)) xs : Int) else 0)) := by
  have hl := hr.len
  obtain ⟨-, -, -, -, -, hu, -⟩ := id h
  refine wm_in (lv := _) rfl rfl rfl ?_
  repeat' (first | (refine Wp.sub (lp_note h hr ha hb 100 _ _ ?_) ⟨rfl, rfl, rfl, trivial⟩ rfl) | (refine wf rfl ?_; first | refine wq_iadd ?_ | refine wq_isub ?_ | refine wq_imul ?_ | refine wq_iinc rfl ?_ | refine wq_goto ?_ | refine wq_k rfl ?_ | refine wq_b rfl rfl ?_ | refine wq_getf (by assumption) rfl ?_ | refine wq_alen (by assumption) rfl ?_ | fail | (refine wq_eq ⟨by omega, by omega⟩ ⟨by omega, by omega⟩ (fun _ => ?_) (fun _ => ?_) <;> try (exfalso; omega)) | (refine wq_ne ⟨by omega, by omega⟩ ⟨by omega, by omega⟩ (fun _ => ?_) (fun _ => ?_) <;> try (exfalso; omega)) | (refine wq_lt ⟨by omega, by omega⟩ ⟨by omega, by omega⟩ (fun _ => ?_) (fun _ => ?_) <;> try (exfalso; omega)) | (refine wq_ge ⟨by omega, by omega⟩ ⟨by omega, by omega⟩ (fun _ => ?_) (fun _ => ?_) <;> try (exfalso; omega)) | (refine wq_gt ⟨by omega, by omega⟩ ⟨by omega, by omega⟩ (fun _ => ?_) (fun _ => ?_) <;> try (exfalso; omega)) | (refine wq_le ⟨by omega, by omega⟩ ⟨by omega, by omega⟩ (fun _ => ?_) (fun _ => ?_) <;> try (exfalso; omega)) | (refine wq_ifeq ⟨by omega, by omega⟩ (fun _ => ?_) (fun _ => ?_) <;> try (exfalso; omega)) | (refine wq_ifne ⟨by omega, by omega⟩ (fun _ => ?_) (fun _ => ?_) <;> try (exfalso; omega)) | (refine wq_iflt ⟨by omega, by omega⟩ (fun _ => ?_) (fun _ => ?_) <;> try (exfalso; omega)) | (refine wq_ifge ⟨by omega, by omega⟩ (fun _ => ?_) (fun _ => ?_) <;> try (exfalso; omega)) | (refine wq_ifgt ⟨by omega, by omega⟩ (fun _ => ?_) (fun _ => ?_) <;> try (exfalso; omega)) | (refine wq_ifle ⟨by omega, by omega⟩ (fun _ => ?_) (fun _ => ?_) <;> try (exfalso; omega)) | refine wq_r rfl rfl rfl rfl rfl rfl ?_))
  exact ⟨by omega, by omega, by omega, Fr.rf, us, hu, fun j => by simp⟩
end GR3
end
section
theorem sumL_congr {f f' : Int → Int} : ∀ {xs : List Int}, (∀ s ∈ xs, f s = f' s) → sumL f xs = sumL f' xs
  | [], _ => rfl
  | x :: r, h => by rw [sumL, sumL, h x List.mem_cons_self, sumL_congr (fun s hs => h s (List.mem_cons_of_mem _ hs))]
theorem mxD_congr {f f' : Int → Int} : ∀ {xs : List Int}, (∀ s ∈ xs, f s = f' s) → mxD f xs = mxD f' xs
  | [], _ => rfl
  | x :: r, h => by rw [mxD, mxD, h x List.mem_cons_self, mxD_congr (fun s hs => h s (List.mem_cons_of_mem _ hs))]
theorem mxD_bd {f : Int → Int} {B : Int} (hB : 0 ≤ B) : ∀ {xs : List Int}, (∀ s ∈ xs, f s ≤ B) → 0 ≤ mxD f xs ∧ mxD f xs ≤ B
  | [], _ => by simp [mxD, hB]
  | x :: r, h => by
    have ih := mxD_bd hB (f := f) (xs := r) (fun s hs => h s (List.mem_cons_of_mem _ hs))
    have := h x List.mem_cons_self
    rw [mxD]
    omega
/-- how often the rule j's symbol stands in the first k rows -/
def usS (X : Nat → List Int) (j : Nat) : Nat → Int
  | 0 => 0
  | k + 1 => usS X j k + (cntE (8 + (j : Int)) (X k) : Int)
/-- a well made grammar's symbols -/
def WFX (N : Nat) (X : Nat → List Int) : Prop := ∀ k, k < N → ∀ s ∈ X k, 0 ≤ s ∧ s < 8 + (k : Int)
def WFm (N : Nat) (mn : List Int) : Prop := ∀ s ∈ mn, 0 ≤ s ∧ s < 8 + (N : Int)
/-- what measure() makes -/
def Ms (N : Nat) (X : Nat → List Int) (mn : List Int) (lt dp us : Nat → Int) (W : Int) : Prop :=
  (∀ j, j < N → lt j = min (sumL (lsy N lt) (X j)) 10000 ∧ dp j = mxD (dsy N dp) (X j) + 1 ∧ 0 ≤ lt j ∧ lt j ≤ 10000 ∧ 0 ≤ dp j ∧ dp j ≤ (j : Int) + 1) ∧
  (∀ j, j < N → us j = usS X j N + (cntE (8 + (j : Int)) mn : Int)) ∧ W = min (sumL (lsy N lt) mn) 10000
theorem lsy_bd {N m : Nat} {lt : Nat → Int} {xs : List Int} (hm : m ≤ N) (h : ∀ j, j < m → 0 ≤ lt j ∧ lt j ≤ 10000) (hx : ∀ s ∈ xs, 0 ≤ s ∧ s < 8 + (m : Int)) : ∀ s ∈ xs, 0 ≤ lsy N lt s ∧ lsy N lt s ≤ 10000 := by
  intro s hs
  have h1 := hx s hs
  unfold lsy
  split
  · exact h _ (by omega)
  · omega
theorem lsy_eq {N m : Nat} {lt lt' : Nat → Int} {xs : List Int} (h : ∀ j, j < m → lt j = lt' j) (hx : ∀ s ∈ xs, 0 ≤ s ∧ s < 8 + (m : Int)) : ∀ s ∈ xs, lsy N lt s = lsy N lt' s := by
  intro s hs
  have h1 := hx s hs
  unfold lsy
  split
  · exact h _ (by omega)
  · rfl
theorem dsy_bd {N m : Nat} {dp : Nat → Int} {xs : List Int} (h : ∀ j, j < m → 0 ≤ dp j ∧ dp j ≤ (j : Int) + 1) (hx : ∀ s ∈ xs, 0 ≤ s ∧ s < 8 + (m : Int)) : ∀ s ∈ xs, 0 ≤ dsy N dp s ∧ dsy N dp s ≤ m := by
  intro s hs
  have h1 := hx s hs
  unfold dsy
  split
  · have := h (s - 8).toNat (by omega)
    omega
  · omega
theorem dsy_eq {N m : Nat} {dp dp' : Nat → Int} {xs : List Int} (h : ∀ j, j < m → dp j = dp' j) (hx : ∀ s ∈ xs, 0 ≤ s ∧ s < 8 + (m : Int)) : ∀ s ∈ xs, dsy N dp s = dsy N dp' s := by
  intro s hs
  have h1 := hx s hs
  unfold dsy
  split
  · exact h _ (by omega)
  · rfl
section GR4
variable {M : PM} {g N : Nat} {p : Nat → Nat} {X : Nat → List Int} {mn : List Int} {lt dp us : Nat → Int} {W : Int}
theorem lp_measure (hX : WFX N X) (hm : WFm N mn) (n : Nat) : ∀ (k : Int) (M1 : PM), (0 ≤ k ∧ k ≤ N ∧ N - k < n ∧ Fr (fun q => q = g ∨ q = g + 4 ∨ q = g + 5 ∨ q = g + 6) M M1 ∧ ∃ lt1 dp1 us1, Gm M1 g N p X mn lt1 dp1 us1 W ∧ (∀ j, j < k.toNat → lt1 j = min (sumL (lsy N lt1) (X j)) 10000 ∧ dp1 j = mxD (dsy N dp1) (X j) + 1 ∧ 0 ≤ lt1 j ∧ lt1 j ≤ 10000 ∧ 0 ≤ dp1 j ∧ dp1 j ≤ (j : Int) + 1) ∧ ∀ j, j < N → us1 j = usS X j k.toNat) →
    Wp k_X0_measure (10, [(0, .ref g), (1, .int (I k))], [], M1) (fun v M' => v = none ∧ Fr (fun q => q = g ∨ q = g + 4 ∨ q = g + 5 ∨ q = g + 6) M M' ∧ ∃ lt' dp' us' W', Gm M' g N p X mn lt' dp' us' W' ∧ Ms N X mn lt' dp' us' W') := by
  induction n with
  | zero => intro k M1 hi; exfalso; omega
  | succ n ih =>
    intro k M1 hi
    obtain ⟨i1, i2, i3, i4, lt1, dp1, us1, hg, i5, i6⟩ := hi
    have hN := hg.le
    have hg1 := hg.obj
    obtain ⟨-, ⟨f, hf1, hf2⟩, hmn, hl1, hd1, hu1, hrows, hpos, hinj, -⟩ := id hg
    by_cases hk : k < N
    · have hkk : k.toNat < 26 := by omega
      have hr := hg.row hkk
      have hsb := hX k.toNat (by omega)
      have hSB : SB (X k.toNat) := fun s hs => by have := hsb s hs; omega
      obtain ⟨jp, hjp, ejp⟩ := hpos k.toNat hkk
      have hfl := lsy_bd (N := N) (m := k.toNat) (lt := lt1) (by omega) (fun j hj => ⟨(i5 j hj).2.2.1, (i5 j hj).2.2.2.1⟩) hsb
      have hsz := c_Row_size hr
      have hlen := hr.len
      have hla := c_Gr_lettersAhead hg hr hSB hfl (q := (X k.toNat).length) ⟨by omega, by omega⟩
      rw [List.take_of_length_le (by omega)] at hla
      have bz := sumL_bd hfl
      generalize hv : min (sumL (lsy N lt1) (X k.toNat)) 10000 = vl at hla
      obtain ⟨gr, h1, h2, h3, h4⟩ := id hr
      refine wf rfl ?_
      refine wq_k rfl ?_
      repeat (refine wf rfl ?_; first | refine wq_iadd ?_ | refine wq_isub ?_ | refine wq_imul ?_ | refine wq_iinc rfl ?_ | refine wq_goto ?_ | refine wq_k rfl ?_ | refine wq_b rfl rfl ?_ | refine wq_getf (by assumption) rfl ?_ | refine wq_alen (by assumption) rfl ?_)
      refine wf rfl (wq_ge ⟨by omega, by omega⟩ ⟨by omega, by omega⟩ (fun c1 => by exfalso; omega) (fun c1 => ?_))
      repeat (refine wf rfl ?_; first | refine wq_iadd ?_ | refine wq_isub ?_ | refine wq_imul ?_ | refine wq_iinc rfl ?_ | refine wq_goto ?_ | refine wq_k rfl ?_ | refine wq_b rfl rfl ?_ | refine wq_getf (by assumption) rfl ?_ | refine wq_alen (by assumption) rfl ?_)
      refine wf rfl (wq_ge ⟨by omega, by omega⟩ ⟨by omega, by omega⟩ (fun c1 => by exfalso; omega) (fun c1 => ?_))
      repeat (refine wf rfl ?_; first | refine wq_iadd ?_ | refine wq_isub ?_ | refine wq_imul ?_ | refine wq_iinc rfl ?_ | refine wq_goto ?_ | refine wq_k rfl ?_ | refine wq_b rfl rfl ?_ | refine wq_getf (by assumption) rfl ?_ | refine wq_alen (by assumption) rfl ?_)
      refine wf rfl (wq_aald hf1 rfl ⟨by omega, by omega⟩ (by omega) (by omega) (hf2 _ hkk) ?_)
      repeat (refine wf rfl ?_; first | refine wq_iadd ?_ | refine wq_isub ?_ | refine wq_imul ?_ | refine wq_iinc rfl ?_ | refine wq_goto ?_ | refine wq_k rfl ?_ | refine wq_b rfl rfl ?_ | refine wq_getf (by assumption) rfl ?_ | refine wq_alen (by assumption) rfl ?_)
      refine wf rfl (wq_aald hf1 rfl ⟨by omega, by omega⟩ (by omega) (by omega) (hf2 _ hkk) ?_)
      refine wf rfl (wq_cv rfl rfl rfl h1 (hsz.mono ?_))
      rintro v M1 ⟨rfl, rfl⟩
      refine wf rfl (wq_cv rfl rfl rfl hg1 (hla.mono ?_))
      rintro v M1 ⟨rfl, rfl⟩
      refine wf rfl (wq_iast hl1 rfl ⟨by omega, by omega⟩ (by omega) (by omega) (fun M2 e2 f2 => ?_))
      have hg2 : Gm M2 g N p X mn (upz lt1 k.toNat vl) dp1 us1 W := hg.upd (f2.mono (fun q hq => by omega)) (f2.at (by omega) hg1) e2 (f2.at (by omega) hd1) (f2.at (by omega) hu1) hN
      have hr2 := hg2.row hkk
      have hfd := dsy_bd (N := N) (m := k.toNat) (dp := dp1) (fun j hj => ⟨(i5 j hj).2.2.2.2.1, (i5 j hj).2.2.2.2.2⟩) hsb
      have hdr := c_Gr_depthOfRow hg2 hr2 hSB (fun s hs => by have := hfd s hs; omega)
      have hmx := mxD_bd (f := dsy N dp1) (B := k.toNat) (by omega) (fun s hs => (hfd s hs).2)
      have hg21 := hg2.obj
      have hf12 := f2.at (by omega) hf1
      have hd12 := f2.at (by omega) hd1
      repeat (refine wf rfl ?_; first | refine wq_iadd ?_ | refine wq_isub ?_ | refine wq_imul ?_ | refine wq_iinc rfl ?_ | refine wq_goto ?_ | refine wq_k rfl ?_ | refine wq_b rfl rfl ?_ | refine wq_getf (by assumption) rfl ?_ | refine wq_alen (by assumption) rfl ?_)
      refine wf rfl (wq_aald hf12 rfl ⟨by omega, by omega⟩ (by omega) (by omega) (hf2 _ hkk) ?_)
      refine wf rfl (wq_cv rfl rfl rfl hg21 (hdr.mono ?_))
      rintro v M2 ⟨rfl, rfl⟩
      refine wf rfl (wq_iast hd12 rfl ⟨by omega, by omega⟩ (by omega) (by omega) (fun M3 e3 f3 => ?_))
      generalize hdv : mxD (dsy N dp1) (X k.toNat) + 1 = vd at e3 hmx
      have hg3 : Gm M3 g N p X mn (upz lt1 k.toNat vl) (upz dp1 k.toNat vd) us1 W := hg2.upd (f3.mono (fun q hq => by omega)) (f3.at (by omega) hg21) (f3.at (by omega) e2) e3 (f3.at (by omega) (f2.at (by omega) hu1)) hN
      have hr3 := hg3.row hkk
      have hnu := c_Gr_noteUses hg3 hr3 (by omega) hSB
      have hg31 := hg3.obj
      have hf13 := f3.at (by omega) hf12
      repeat (refine wf rfl ?_; first | refine wq_iadd ?_ | refine wq_isub ?_ | refine wq_imul ?_ | refine wq_iinc rfl ?_ | refine wq_goto ?_ | refine wq_k rfl ?_ | refine wq_b rfl rfl ?_ | refine wq_getf (by assumption) rfl ?_ | refine wq_alen (by assumption) rfl ?_)
      refine wf rfl (wq_aald hf13 rfl ⟨by omega, by omega⟩ (by omega) (by omega) (hf2 _ hkk) ?_)
      refine wf rfl (wq_cv rfl rfl rfl hg31 (hnu.mono ?_))
      rintro v M4 ⟨rfl, f4, u4, e4, q4⟩
      have hg4 := hg3.newUs f4 e4
      repeat' (first | (refine Wp.sub (ih _ _ ?_) ⟨rfl, rfl, trivial⟩ rfl) | (refine wf rfl ?_; first | refine wq_iadd ?_ | refine wq_isub ?_ | refine wq_imul ?_ | refine wq_iinc rfl ?_ | refine wq_goto ?_ | refine wq_k rfl ?_ | refine wq_b rfl rfl ?_ | refine wq_getf (by assumption) rfl ?_ | refine wq_alen (by assumption) rfl ?_ | fail | (refine wq_eq ⟨by omega, by omega⟩ ⟨by omega, by omega⟩ (fun _ => ?_) (fun _ => ?_) <;> try (exfalso; omega)) | (refine wq_ne ⟨by omega, by omega⟩ ⟨by omega, by omega⟩ (fun _ => ?_) (fun _ => ?_) <;> try (exfalso; omega)) | (refine wq_lt ⟨by omega, by omega⟩ ⟨by omega, by omega⟩ (fun _ => ?_) (fun _ => ?_) <;> try (exfalso; omega)) | (refine wq_ge ⟨by omega, by omega⟩ ⟨by omega, by omega⟩ (fun _ => ?_) (fun _ => ?_) <;> try (exfalso; omega)) | (refine wq_gt ⟨by omega, by omega⟩ ⟨by omega, by omega⟩ (fun _ => ?_) (fun _ => ?_) <;> try (exfalso; omega)) | (refine wq_le ⟨by omega, by omega⟩ ⟨by omega, by omega⟩ (fun _ => ?_) (fun _ => ?_) <;> try (exfalso; omega)) | (refine wq_ifeq ⟨by omega, by omega⟩ (fun _ => ?_) (fun _ => ?_) <;> try (exfalso; omega)) | (refine wq_ifne ⟨by omega, by omega⟩ (fun _ => ?_) (fun _ => ?_) <;> try (exfalso; omega)) | (refine wq_iflt ⟨by omega, by omega⟩ (fun _ => ?_) (fun _ => ?_) <;> try (exfalso; omega)) | (refine wq_ifge ⟨by omega, by omega⟩ (fun _ => ?_) (fun _ => ?_) <;> try (exfalso; omega)) | (refine wq_ifgt ⟨by omega, by omega⟩ (fun _ => ?_) (fun _ => ?_) <;> try (exfalso; omega)) | (refine wq_ifle ⟨by omega, by omega⟩ (fun _ => ?_) (fun _ => ?_) <;> try (exfalso; omega)) | refine wq_r rfl rfl rfl rfl rfl rfl ?_))
      have ekn : (k + 1).toNat = k.toNat + 1 := by omega
      have hlteq : ∀ j, j < k.toNat → upz lt1 k.toNat vl j = lt1 j := fun j hj => upz_ne _ _ (by omega)
      have hdpeq : ∀ j, j < k.toNat → upz dp1 k.toNat vd j = dp1 j := fun j hj => upz_ne _ _ (by omega)
      refine ⟨by omega, by omega, by omega, ((i4.tr (f2.mono (fun q hq => by omega))).tr (f3.mono (fun q hq => by omega))).tr (f4.mono (fun q hq => by omega)), _, _, _, hg4, ?_, ?_⟩
      · intro j hj
        rw [ekn] at hj
        by_cases he : j < k.toNat
        · have hxj : ∀ s ∈ X j, 0 ≤ s ∧ s < 8 + ((k.toNat : Nat) : Int) := fun s hs => by have := hX j (by omega) s hs; omega
          rw [hlteq j he, hdpeq j he, sumL_congr (lsy_eq (N := N) (lt' := lt1) hlteq hxj), mxD_congr (dsy_eq (N := N) (dp' := dp1) hdpeq hxj)]
          exact i5 j he
        · have he : j = k.toNat := by omega
          subst he
          rw [upz_at, upz_at, sumL_congr (lsy_eq (N := N) (lt' := lt1) hlteq hsb), mxD_congr (dsy_eq (N := N) (dp' := dp1) hdpeq hsb)]
          exact ⟨hv.symm, hdv.symm, by omega, by omega, by omega, by omega⟩
      · intro j hj
        rw [ekn, usS, ← i6 j hj, q4 j, if_pos hj]
    · have ek : k.toNat = N := by omega
      rw [ek] at i5 i6
      have hSBm : SB mn := fun s hs => by have := hm s hs; omega
      have hfl := lsy_bd (N := N) (m := N) (lt := lt1) (Nat.le_refl _) (fun j hj => ⟨(i5 j hj).2.2.1, (i5 j hj).2.2.2.1⟩) hm
      have hsz := c_Row_size hmn
      have hlen := hmn.len
      have hla := c_Gr_lettersAhead hg hmn hSBm hfl (q := mn.length) ⟨by omega, by omega⟩
      rw [List.take_of_length_le (by omega)] at hla
      generalize hv : min (sumL (lsy N lt1) mn) 10000 = vl at hla
      obtain ⟨gr, h1, h2, h3, h4⟩ := id hmn
      refine wf rfl ?_
      refine wq_k rfl ?_
      repeat (refine wf rfl ?_; first | refine wq_iadd ?_ | refine wq_isub ?_ | refine wq_imul ?_ | refine wq_iinc rfl ?_ | refine wq_goto ?_ | refine wq_k rfl ?_ | refine wq_b rfl rfl ?_ | refine wq_getf (by assumption) rfl ?_ | refine wq_alen (by assumption) rfl ?_)
      refine wf rfl (wq_ge ⟨by omega, by omega⟩ ⟨by omega, by omega⟩ (fun c1 => ?_) (fun c1 => by exfalso; omega))
      repeat (refine wf rfl ?_; first | refine wq_iadd ?_ | refine wq_isub ?_ | refine wq_imul ?_ | refine wq_iinc rfl ?_ | refine wq_goto ?_ | refine wq_k rfl ?_ | refine wq_b rfl rfl ?_ | refine wq_getf (by assumption) rfl ?_ | refine wq_alen (by assumption) rfl ?_)
      refine wf rfl (wq_cv rfl rfl rfl h1 (hsz.mono ?_))
      rintro v M1 ⟨rfl, rfl⟩
      refine wf rfl (wq_cv rfl rfl rfl hg1 (hla.mono ?_))
      rintro v M1 ⟨rfl, rfl⟩
      refine wf rfl (wq_putf hg1 rfl (fun M2 e2 f2 => ?_))
      have hg2 : Gm M2 g N p X mn lt1 dp1 us1 vl := hg.upd (f2.mono (fun q hq => by omega)) e2 (f2.at (by omega) hl1) (f2.at (by omega) hd1) (f2.at (by omega) hu1) hN
      have hnu := c_Gr_noteUses hg2 hg2.main (by omega) hSBm
      have hg21 := hg2.obj
      repeat (refine wf rfl ?_; first | refine wq_iadd ?_ | refine wq_isub ?_ | refine wq_imul ?_ | refine wq_iinc rfl ?_ | refine wq_goto ?_ | refine wq_k rfl ?_ | refine wq_b rfl rfl ?_ | refine wq_getf (by assumption) rfl ?_ | refine wq_alen (by assumption) rfl ?_)
      refine wf rfl (wq_cv rfl rfl rfl hg21 (hnu.mono ?_))
      rintro v M4 ⟨rfl, f4, u4, e4, q4⟩
      have hg4 := hg2.newUs f4 e4
      repeat' (refine wf rfl ?_; first | refine wq_iadd ?_ | refine wq_isub ?_ | refine wq_imul ?_ | refine wq_iinc rfl ?_ | refine wq_goto ?_ | refine wq_k rfl ?_ | refine wq_b rfl rfl ?_ | refine wq_getf (by assumption) rfl ?_ | refine wq_alen (by assumption) rfl ?_ | (refine wq_eq ⟨by omega, by omega⟩ ⟨by omega, by omega⟩ (fun _ => ?_) (fun _ => ?_) <;> try (exfalso; omega)) | (refine wq_ne ⟨by omega, by omega⟩ ⟨by omega, by omega⟩ (fun _ => ?_) (fun _ => ?_) <;> try (exfalso; omega)) | (refine wq_lt ⟨by omega, by omega⟩ ⟨by omega, by omega⟩ (fun _ => ?_) (fun _ => ?_) <;> try (exfalso; omega)) | (refine wq_ge ⟨by omega, by omega⟩ ⟨by omega, by omega⟩ (fun _ => ?_) (fun _ => ?_) <;> try (exfalso; omega)) | (refine wq_gt ⟨by omega, by omega⟩ ⟨by omega, by omega⟩ (fun _ => ?_) (fun _ => ?_) <;> try (exfalso; omega)) | (refine wq_le ⟨by omega, by omega⟩ ⟨by omega, by omega⟩ (fun _ => ?_) (fun _ => ?_) <;> try (exfalso; omega)) | (refine wq_ifeq ⟨by omega, by omega⟩ (fun _ => ?_) (fun _ => ?_) <;> try (exfalso; omega)) | (refine wq_ifne ⟨by omega, by omega⟩ (fun _ => ?_) (fun _ => ?_) <;> try (exfalso; omega)) | (refine wq_iflt ⟨by omega, by omega⟩ (fun _ => ?_) (fun _ => ?_) <;> try (exfalso; omega)) | (refine wq_ifge ⟨by omega, by omega⟩ (fun _ => ?_) (fun _ => ?_) <;> try (exfalso; omega)) | (refine wq_ifgt ⟨by omega, by omega⟩ (fun _ => ?_) (fun _ => ?_) <;> try (exfalso; omega)) | (refine wq_ifle ⟨by omega, by omega⟩ (fun _ => ?_) (fun _ => ?_) <;> try (exfalso; omega)) | refine wq_r rfl rfl rfl rfl rfl rfl ?_)
      exact ⟨rfl, (i4.tr (f2.mono (fun q hq => by omega))).tr (f4.mono (fun q hq => by omega)), _, _, _, _, hg4, i5, fun j hj => by rw [q4 j, if_pos hj, i6 j hj], hv.symm⟩
theorem c_Gr_measure (h : Gm M g N p X mn lt dp us W) (hX : WFX N X) (hm : WFm N mn) : Wm 20 [.ref g] M (fun v M' => v = none ∧ Fr (fun q => q = g ∨ q = g + 4 ∨ q = g + 5 ∨ q = g + 6) M M' ∧ ∃ lt' dp' us' W', Gm M' g N p X mn lt' dp' us' W' ∧ Ms N X mn lt' dp' us' W') := by
  have hN := h.le
  have hg1 := h.obj
  obtain ⟨-, -, -, hl1, hd1, hu1, -⟩ := id h
  have hfi := c_fill (M := M) (a := g + 6) (v := 0) rfl (by omega) hu1
  refine wm_in (lv := _) rfl rfl rfl ?_
  repeat (refine wf rfl ?_; first | refine wq_iadd ?_ | refine wq_isub ?_ | refine wq_imul ?_ | refine wq_iinc rfl ?_ | refine wq_goto ?_ | refine wq_k rfl ?_ | refine wq_b rfl rfl ?_ | refine wq_getf (by assumption) rfl ?_ | refine wq_alen (by assumption) rfl ?_)
  refine wf rfl (wq_cs rfl rfl (hfi.mono ?_))
  rintro v M1 ⟨rfl, f1, u, e1, q1⟩
  have hg := h.newUs f1 e1
  repeat' (first | (refine Wp.sub (lp_measure (p := p) (W := W) hX hm 100 _ _ ?_) ⟨rfl, rfl, trivial⟩ rfl) | (refine wf rfl ?_; first | refine wq_iadd ?_ | refine wq_isub ?_ | refine wq_imul ?_ | refine wq_iinc rfl ?_ | refine wq_goto ?_ | refine wq_k rfl ?_ | refine wq_b rfl rfl ?_ | refine wq_getf (by assumption) rfl ?_ | refine wq_alen (by assumption) rfl ?_ | fail | (refine wq_eq ⟨by omega, by omega⟩ ⟨by omega, by omega⟩ (fun _ => ?_) (fun _ => ?_) <;> try (exfalso; omega)) | (refine wq_ne ⟨by omega, by omega⟩ ⟨by omega, by omega⟩ (fun _ => ?_) (fun _ => ?_) <;> try (exfalso; omega)) | (refine wq_lt ⟨by omega, by omega⟩ ⟨by omega, by omega⟩ (fun _ => ?_) (fun _ => ?_) <;> try (exfalso; omega)) | (refine wq_ge ⟨by omega, by omega⟩ ⟨by omega, by omega⟩ (fun _ => ?_) (fun _ => ?_) <;> try (exfalso; omega)) | (refine wq_gt ⟨by omega, by omega⟩ ⟨by omega, by omega⟩ (fun _ => ?_) (fun _ => ?_) <;> try (exfalso; omega)) | (refine wq_le ⟨by omega, by omega⟩ ⟨by omega, by omega⟩ (fun _ => ?_) (fun _ => ?_) <;> try (exfalso; omega)) | (refine wq_ifeq ⟨by omega, by omega⟩ (fun _ => ?_) (fun _ => ?_) <;> try (exfalso; omega)) | (refine wq_ifne ⟨by omega, by omega⟩ (fun _ => ?_) (fun _ => ?_) <;> try (exfalso; omega)) | (refine wq_iflt ⟨by omega, by omega⟩ (fun _ => ?_) (fun _ => ?_) <;> try (exfalso; omega)) | (refine wq_ifge ⟨by omega, by omega⟩ (fun _ => ?_) (fun _ => ?_) <;> try (exfalso; omega)) | (refine wq_ifgt ⟨by omega, by omega⟩ (fun _ => ?_) (fun _ => ?_) <;> try (exfalso; omega)) | (refine wq_ifle ⟨by omega, by omega⟩ (fun _ => ?_) (fun _ => ?_) <;> try (exfalso; omega)) | refine wq_r rfl rfl rfl rfl rfl rfl ?_))
  exact ⟨by omega, by omega, by omega, f1.mono (fun q hq => by omega), _, _, _, hg, fun j hj => by simp at hj, fun j hj => q1 j (by omega)⟩
end GR4
end
section
/-- a sum, a greatest one, over the first k -/
def smN (f : Nat → Int) : Nat → Int
  | 0 => 0
  | k + 1 => smN f k + f k
def mxN (f : Nat → Int) : Nat → Int
  | 0 => 0
  | k + 1 => max (mxN f k) (f k)
theorem smN_bd {f : Nat → Int} {B : Int} : ∀ {k : Nat}, (∀ j, j < k → 0 ≤ f j ∧ f j ≤ B) → 0 ≤ smN f k ∧ smN f k ≤ B * (k : Int)
  | 0, _ => by simp [smN]
  | k + 1, h => by
    have ih := smN_bd (f := f) (B := B) (k := k) (fun j hj => h j (by omega))
    have := h k (by omega)
    rw [smN, show ((k + 1 : Nat) : Int) = (k : Int) + 1 by omega, Int.mul_add, Int.mul_one]
    omega
theorem mxN_bd {f : Nat → Int} {B : Int} (hB : 0 ≤ B) : ∀ {k : Nat}, (∀ j, j < k → 0 ≤ f j ∧ f j ≤ B) → 0 ≤ mxN f k ∧ mxN f k ≤ B
  | 0, _ => by simp [mxN, hB]
  | k + 1, h => by
    have ih := mxN_bd hB (f := f) (k := k) (fun j hj => h j (by omega))
    have := h k (by omega)
    rw [mxN]
    omega
section GR5
variable {M : PM} {g N : Nat} {p : Nat → Nat} {X : Nat → List Int} {mn : List Int} {lt dp us : Nat → Int} {W : Int}
theorem lp_total (h : Gm M g N p X mn lt dp us W) (n : Nat) : ∀ (z k : Int), (0 ≤ k ∧ k ≤ N ∧ N - k < n ∧ z = (mn.length : Int) + smN (fun j => ((X j).length : Int)) k.toNat) →
    Wp k_X0_totalSize (10, [(0, .ref g), (1, .int (I z)), (2, .int (I k))], [], M) (fun v M' => v = some (.int (I ((mn.length : Int) + smN (fun j => ((X j).length : Int)) N))) ∧ M' = M) := by
  have hN := h.le
  have hg1 := h.obj
  induction n with
  | zero => intro z k hi; exfalso; omega
  | succ n ih =>
    intro z k hi
    obtain ⟨i1, i2, i3, i4⟩ := hi
    by_cases hk : k < N
    · have hr := h.row (k := k.toNat) (by omega)
      have hrr := c_Gr_ruleRow (k := k) ⟨by omega, by omega⟩ h
      rw [if_pos (by omega)] at hrr
      have hsz := c_Row_size hr
      obtain ⟨gr, h1, h2, h3, h4⟩ := id hr
      repeat (refine wf rfl ?_; first | refine wq_iadd ?_ | refine wq_isub ?_ | refine wq_imul ?_ | refine wq_iinc rfl ?_ | refine wq_goto ?_ | refine wq_k rfl ?_ | refine wq_b rfl rfl ?_ | refine wq_getf (by assumption) rfl ?_ | refine wq_alen (by assumption) rfl ?_)
      refine wf rfl (wq_ge ⟨by omega, by omega⟩ ⟨by omega, by omega⟩ (fun c1 => by exfalso; omega) (fun c1 => ?_))
      repeat (refine wf rfl ?_; first | refine wq_iadd ?_ | refine wq_isub ?_ | refine wq_imul ?_ | refine wq_iinc rfl ?_ | refine wq_goto ?_ | refine wq_k rfl ?_ | refine wq_b rfl rfl ?_ | refine wq_getf (by assumption) rfl ?_ | refine wq_alen (by assumption) rfl ?_)
      refine wf rfl (wq_cv rfl rfl rfl hg1 (hrr.mono ?_))
      rintro v M ⟨rfl, rfl⟩
      refine wf rfl (wq_cv rfl rfl rfl h1 (hsz.mono ?_))
      rintro v M ⟨rfl, rfl⟩
      repeat' (first | (refine Wp.sub (ih _ _ ?_) ⟨rfl, rfl, rfl, trivial⟩ rfl) | (refine wf rfl ?_; first | refine wq_iadd ?_ | refine wq_isub ?_ | refine wq_imul ?_ | refine wq_iinc rfl ?_ | refine wq_goto ?_ | refine wq_k rfl ?_ | refine wq_b rfl rfl ?_ | refine wq_getf (by assumption) rfl ?_ | refine wq_alen (by assumption) rfl ?_ | fail | (refine wq_eq ⟨by omega, by omega⟩ ⟨by omega, by omega⟩ (fun _ => ?_) (fun _ => ?_) <;> try (exfalso; omega)) | (refine wq_ne ⟨by omega, by omega⟩ ⟨by omega, by omega⟩ (fun _ => ?_) (fun _ => ?_) <;> try (exfalso; omega)) | (refine wq_lt ⟨by omega, by omega⟩ ⟨by omega, by omega⟩ (fun _ => ?_) (fun _ => ?_) <;> try (exfalso; omega)) | (refine wq_ge ⟨by omega, by omega⟩ ⟨by omega, by omega⟩ (fun _ => ?_) (fun _ => ?_) <;> try (exfalso; omega)) | (refine wq_gt ⟨by omega, by omega⟩ ⟨by omega, by omega⟩ (fun _ => ?_) (fun _ => ?_) <;> try (exfalso; omega)) | (refine wq_le ⟨by omega, by omega⟩ ⟨by omega, by omega⟩ (fun _ => ?_) (fun _ => ?_) <;> try (exfalso; omega)) | (refine wq_ifeq ⟨by omega, by omega⟩ (fun _ => ?_) (fun _ => ?_) <;> try (exfalso; omega)) | (refine wq_ifne ⟨by omega, by omega⟩ (fun _ => ?_) (fun _ => ?_) <;> try (exfalso; omega)) | (refine wq_iflt ⟨by omega, by omega⟩ (fun _ => ?_) (fun _ => ?_) <;> try (exfalso; omega)) | (refine wq_ifge ⟨by omega, by omega⟩ (fun _ => ?_) (fun _ => ?_) <;> try (exfalso; omega)) | (refine wq_ifgt ⟨by omega, by omega⟩ (fun _ => ?_) (fun _ => ?_) <;> try (exfalso; omega)) | (refine wq_ifle ⟨by omega, by omega⟩ (fun _ => ?_) (fun _ => ?_) <;> try (exfalso; omega)) | refine wq_r rfl rfl rfl rfl rfl rfl ?_))
      exact ⟨by omega, by omega, by omega, by rw [show (k + 1).toNat = k.toNat + 1 by omega, smN, i4]; omega⟩
    · repeat' (refine wf rfl ?_; first | refine wq_iadd ?_ | refine wq_isub ?_ | refine wq_imul ?_ | refine wq_iinc rfl ?_ | refine wq_goto ?_ | refine wq_k rfl ?_ | refine wq_b rfl rfl ?_ | refine wq_getf (by assumption) rfl ?_ | refine wq_alen (by assumption) rfl ?_ | (refine wq_eq ⟨by omega, by omega⟩ ⟨by omega, by omega⟩ (fun _ => ?_) (fun _ => ?_) <;> try (exfalso; omega)) | (refine wq_ne ⟨by omega, by omega⟩ ⟨by omega, by omega⟩ (fun _ => ?_) (fun _ => ?_) <;> try (exfalso; omega)) | (refine wq_lt ⟨by omega, by omega⟩ ⟨by omega, by omega⟩ (fun _ => ?_) (fun _ => ?_) <;> try (exfalso; omega)) | (refine wq_ge ⟨by omega, by omega⟩ ⟨by omega, by omega⟩ (fun _ => ?_) (fun _ => ?_) <;> try (exfalso; omega)) | (refine wq_gt ⟨by omega, by omega⟩ ⟨by omega, by omega⟩ (fun _ => ?_) (fun _ => ?_) <;> try (exfalso; omega)) | (refine wq_le ⟨by omega, by omega⟩ ⟨by omega, by omega⟩ (fun _ => ?_) (fun _ => ?_) <;> try (exfalso; omega)) | (refine wq_ifeq ⟨by omega, by omega⟩ (fun _ => ?_) (fun _ => ?_) <;> try (exfalso; omega)) | (refine wq_ifne ⟨by omega, by omega⟩ (fun _ => ?_) (fun _ => ?_) <;> try (exfalso; omega)) | (refine wq_iflt ⟨by omega, by omega⟩ (fun _ => ?_) (fun _ => ?_) <;> try (exfalso; omega)) | (refine wq_ifge ⟨by omega, by omega⟩ (fun _ => ?_) (fun _ => ?_) <;> try (exfalso; omega)) | (refine wq_ifgt ⟨by omega, by omega⟩ (fun _ => ?_) (fun _ => ?_) <;> try (exfalso; omega)) | (refine wq_ifle ⟨by omega, by omega⟩ (fun _ => ?_) (fun _ => ?_) <;> try (exfalso; omega)) | refine wq_r rfl rfl rfl rfl rfl rfl ?_)
      · exact ⟨by rw [i4, show k.toNat = N by omega], rfl⟩
theorem c_Gr_totalSize (h : Gm M g N p X mn lt dp us W) : Wm 16 [.ref g] M (fun v M' => v = some (.int (I ((mn.length : Int) + smN (fun j => ((X j).length : Int)) N))) ∧ M' = M) := by
  have hN := h.le
  have hg1 := h.obj
  have hsz := c_Row_size h.main
  obtain ⟨gr, h1, h2, h3, h4⟩ := h.main
  refine wm_in (lv := _) rfl rfl rfl ?_
  repeat (refine wf rfl ?_; first | refine wq_iadd ?_ | refine wq_isub ?_ | refine wq_imul ?_ | refine wq_iinc rfl ?_ | refine wq_goto ?_ | refine wq_k rfl ?_ | refine wq_b rfl rfl ?_ | refine wq_getf (by assumption) rfl ?_ | refine wq_alen (by assumption) rfl ?_)
  refine wf rfl (wq_cv rfl rfl rfl h1 (hsz.mono ?_))
  rintro v M ⟨rfl, rfl⟩
  repeat' (first | (refine Wp.sub (lp_total h 100 _ _ ?_) ⟨rfl, rfl, rfl, trivial⟩ rfl) | (refine wf rfl ?_; first | refine wq_iadd ?_ | refine wq_isub ?_ | refine wq_imul ?_ | refine wq_iinc rfl ?_ | refine wq_goto ?_ | refine wq_k rfl ?_ | refine wq_b rfl rfl ?_ | refine wq_getf (by assumption) rfl ?_ | refine wq_alen (by assumption) rfl ?_ | fail | (refine wq_eq ⟨by omega, by omega⟩ ⟨by omega, by omega⟩ (fun _ => ?_) (fun _ => ?_) <;> try (exfalso; omega)) | (refine wq_ne ⟨by omega, by omega⟩ ⟨by omega, by omega⟩ (fun _ => ?_) (fun _ => ?_) <;> try (exfalso; omega)) | (refine wq_lt ⟨by omega, by omega⟩ ⟨by omega, by omega⟩ (fun _ => ?_) (fun _ => ?_) <;> try (exfalso; omega)) | (refine wq_ge ⟨by omega, by omega⟩ ⟨by omega, by omega⟩ (fun _ => ?_) (fun _ => ?_) <;> try (exfalso; omega)) | (refine wq_gt ⟨by omega, by omega⟩ ⟨by omega, by omega⟩ (fun _ => ?_) (fun _ => ?_) <;> try (exfalso; omega)) | (refine wq_le ⟨by omega, by omega⟩ ⟨by omega, by omega⟩ (fun _ => ?_) (fun _ => ?_) <;> try (exfalso; omega)) | (refine wq_ifeq ⟨by omega, by omega⟩ (fun _ => ?_) (fun _ => ?_) <;> try (exfalso; omega)) | (refine wq_ifne ⟨by omega, by omega⟩ (fun _ => ?_) (fun _ => ?_) <;> try (exfalso; omega)) | (refine wq_iflt ⟨by omega, by omega⟩ (fun _ => ?_) (fun _ => ?_) <;> try (exfalso; omega)) | (refine wq_ifge ⟨by omega, by omega⟩ (fun _ => ?_) (fun _ => ?_) <;> try (exfalso; omega)) | (refine wq_ifgt ⟨by omega, by omega⟩ (fun _ => ?_) (fun _ => ?_) <;> try (exfalso; omega)) | (refine wq_ifle ⟨by omega, by omega⟩ (fun _ => ?_) (fun _ => ?_) <;> try (exfalso; omega)) | refine wq_r rfl rfl rfl rfl rfl rfl ?_))
  exact ⟨by omega, by omega, by omega, by simp [smN]⟩
theorem lp_deepest (h : Gm M g N p X mn lt dp us W) (hb : ∀ j, j < N → 0 ≤ dp j ∧ dp j ≤ 1000) (n : Nat) : ∀ (z k : Int), (0 ≤ k ∧ k ≤ N ∧ N - k < n ∧ z = mxN dp k.toNat) →
    Wp k_X0_deepest (4, [(0, .ref g), (1, .int (I z)), (2, .int (I k))], [], M) (fun v M' => v = some (.int (I (mxN dp N))) ∧ M' = M) := by
  have hN := h.le
  have hg1 := h.obj
  induction n with
  | zero => intro z k hi; exfalso; omega
  | succ n ih =>
    intro z k hi
    obtain ⟨i1, i2, i3, i4⟩ := hi
    by_cases hk : k < N
    · have hbd := hb k.toNat (by omega)
      have hmb := mxN_bd (f := dp) (B := 1000) (by omega) (k := k.toNat) (fun j hj => hb j (by omega))
      have hrr := c_Gr_depthOfRule (k := k) ⟨by omega, by omega⟩ h
      rw [if_pos (by omega)] at hrr
      have hmx := c_max (M := M) (x := z) (y := dp k.toNat) ⟨by omega, by omega⟩ ⟨by omega, by omega⟩
      repeat (refine wf rfl ?_; first | refine wq_iadd ?_ | refine wq_isub ?_ | refine wq_imul ?_ | refine wq_iinc rfl ?_ | refine wq_goto ?_ | refine wq_k rfl ?_ | refine wq_b rfl rfl ?_ | refine wq_getf (by assumption) rfl ?_ | refine wq_alen (by assumption) rfl ?_)
      refine wf rfl (wq_ge ⟨by omega, by omega⟩ ⟨by omega, by omega⟩ (fun c1 => by exfalso; omega) (fun c1 => ?_))
      repeat (refine wf rfl ?_; first | refine wq_iadd ?_ | refine wq_isub ?_ | refine wq_imul ?_ | refine wq_iinc rfl ?_ | refine wq_goto ?_ | refine wq_k rfl ?_ | refine wq_b rfl rfl ?_ | refine wq_getf (by assumption) rfl ?_ | refine wq_alen (by assumption) rfl ?_)
      refine wf rfl (wq_cv rfl rfl rfl hg1 (hrr.mono ?_))
      rintro v M ⟨rfl, rfl⟩
      refine wf rfl (wq_cs rfl rfl (hmx.mono ?_))
      rintro v M ⟨rfl, rfl⟩
      repeat' (first | (refine Wp.sub (ih _ _ ?_) ⟨rfl, rfl, rfl, trivial⟩ rfl) | (refine wf rfl ?_; first | refine wq_iadd ?_ | refine wq_isub ?_ | refine wq_imul ?_ | refine wq_iinc rfl ?_ | refine wq_goto ?_ | refine wq_k rfl ?_ | refine wq_b rfl rfl ?_ | refine wq_getf (by assumption) rfl ?_ | refine wq_alen (by assumption) rfl ?_ | fail | (refine wq_eq ⟨by omega, by omega⟩ ⟨by omega, by omega⟩ (fun _ => ?_) (fun _ => ?_) <;> try (exfalso; omega)) | (refine wq_ne ⟨by omega, by omega⟩ ⟨by omega, by omega⟩ (fun _ => ?_) (fun _ => ?_) <;> try (exfalso; omega)) | (refine wq_lt ⟨by omega, by omega⟩ ⟨by omega, by omega⟩ (fun _ => ?_) (fun _ => ?_) <;> try (exfalso; omega)) | (refine wq_ge ⟨by omega, by omega⟩ ⟨by omega, by omega⟩ (fun _ => ?_) (fun _ => ?_) <;> try (exfalso; omega)) | (refine wq_gt ⟨by omega, by omega⟩ ⟨by omega, by omega⟩ (fun _ => ?_) (fun _ => ?_) <;> try (exfalso; omega)) | (refine wq_le ⟨by omega, by omega⟩ ⟨by omega, by omega⟩ (fun _ => ?_) (fun _ => ?_) <;> try (exfalso; omega)) | (refine wq_ifeq ⟨by omega, by omega⟩ (fun _ => ?_) (fun _ => ?_) <;> try (exfalso; omega)) | (refine wq_ifne ⟨by omega, by omega⟩ (fun _ => ?_) (fun _ => ?_) <;> try (exfalso; omega)) | (refine wq_iflt ⟨by omega, by omega⟩ (fun _ => ?_) (fun _ => ?_) <;> try (exfalso; omega)) | (refine wq_ifge ⟨by omega, by omega⟩ (fun _ => ?_) (fun _ => ?_) <;> try (exfalso; omega)) | (refine wq_ifgt ⟨by omega, by omega⟩ (fun _ => ?_) (fun _ => ?_) <;> try (exfalso; omega)) | (refine wq_ifle ⟨by omega, by omega⟩ (fun _ => ?_) (fun _ => ?_) <;> try (exfalso; omega)) | refine wq_r rfl rfl rfl rfl rfl rfl ?_))
      exact ⟨by omega, by omega, by omega, by rw [show (k + 1).toNat = k.toNat + 1 by omega, mxN, i4]⟩
    · repeat' (refine wf rfl ?_; first | refine wq_iadd ?_ | refine wq_isub ?_ | refine wq_imul ?_ | refine wq_iinc rfl ?_ | refine wq_goto ?_ | refine wq_k rfl ?_ | refine wq_b rfl rfl ?_ | refine wq_getf (by assumption) rfl ?_ | refine wq_alen (by assumption) rfl ?_ | (refine wq_eq ⟨by omega, by omega⟩ ⟨by omega, by omega⟩ (fun _ => ?_) (fun _ => ?_) <;> try (exfalso; omega)) | (refine wq_ne ⟨by omega, by omega⟩ ⟨by omega, by omega⟩ (fun _ => ?_) (fun _ => ?_) <;> try (exfalso; omega)) | (refine wq_lt ⟨by omega, by omega⟩ ⟨by omega, by omega⟩ (fun _ => ?_) (fun _ => ?_) <;> try (exfalso; omega)) | (refine wq_ge ⟨by omega, by omega⟩ ⟨by omega, by omega⟩ (fun _ => ?_) (fun _ => ?_) <;> try (exfalso; omega)) | (refine wq_gt ⟨by omega, by omega⟩ ⟨by omega, by omega⟩ (fun _ => ?_) (fun _ => ?_) <;> try (exfalso; omega)) | (refine wq_le ⟨by omega, by omega⟩ ⟨by omega, by omega⟩ (fun _ => ?_) (fun _ => ?_) <;> try (exfalso; omega)) | (refine wq_ifeq ⟨by omega, by omega⟩ (fun _ => ?_) (fun _ => ?_) <;> try (exfalso; omega)) | (refine wq_ifne ⟨by omega, by omega⟩ (fun _ => ?_) (fun _ => ?_) <;> try (exfalso; omega)) | (refine wq_iflt ⟨by omega, by omega⟩ (fun _ => ?_) (fun _ => ?_) <;> try (exfalso; omega)) | (refine wq_ifge ⟨by omega, by omega⟩ (fun _ => ?_) (fun _ => ?_) <;> try (exfalso; omega)) | (refine wq_ifgt ⟨by omega, by omega⟩ (fun _ => ?_) (fun _ => ?_) <;> try (exfalso; omega)) | (refine wq_ifle ⟨by omega, by omega⟩ (fun _ => ?_) (fun _ => ?_) <;> try (exfalso; omega)) | refine wq_r rfl rfl rfl rfl rfl rfl ?_)
      · exact ⟨by rw [i4, show k.toNat = N by omega], rfl⟩
theorem c_Gr_deepest (h : Gm M g N p X mn lt dp us W) (hb : ∀ j, j < N → 0 ≤ dp j ∧ dp j ≤ 1000) : Wm 17 [.ref g] M (fun v M' => v = some (.int (I (mxN dp N))) ∧ M' = M) := by
  have hN := h.le
  refine wm_in (lv := _) rfl rfl rfl ?_
  repeat' (first | (refine Wp.sub (lp_deepest h hb 100 _ _ ?_) ⟨rfl, rfl, rfl, trivial⟩ rfl) | (refine wf rfl ?_; first | refine wq_iadd ?_ | refine wq_isub ?_ | refine wq_imul ?_ | refine wq_iinc rfl ?_ | refine wq_goto ?_ | refine wq_k rfl ?_ | refine wq_b rfl rfl ?_ | refine wq_getf (by assumption) rfl ?_ | refine wq_alen (by assumption) rfl ?_ | fail | (refine wq_eq ⟨by omega, by omega⟩ ⟨by omega, by omega⟩ (fun _ => ?_) (fun _ => ?_) <;> try (exfalso; omega)) | (refine wq_ne ⟨by omega, by omega⟩ ⟨by omega, by omega⟩ (fun _ => ?_) (fun _ => ?_) <;> try (exfalso; omega)) | (refine wq_lt ⟨by omega, by omega⟩ ⟨by omega, by omega⟩ (fun _ => ?_) (fun _ => ?_) <;> try (exfalso; omega)) | (refine wq_ge ⟨by omega, by omega⟩ ⟨by omega, by omega⟩ (fun _ => ?_) (fun _ => ?_) <;> try (exfalso; omega)) | (refine wq_gt ⟨by omega, by omega⟩ ⟨by omega, by omega⟩ (fun _ => ?_) (fun _ => ?_) <;> try (exfalso; omega)) | (refine wq_le ⟨by omega, by omega⟩ ⟨by omega, by omega⟩ (fun _ => ?_) (fun _ => ?_) <;> try (exfalso; omega)) | (refine wq_ifeq ⟨by omega, by omega⟩ (fun _ => ?_) (fun _ => ?_) <;> try (exfalso; omega)) | (refine wq_ifne ⟨by omega, by omega⟩ (fun _ => ?_) (fun _ => ?_) <;> try (exfalso; omega)) | (refine wq_iflt ⟨by omega, by omega⟩ (fun _ => ?_) (fun _ => ?_) <;> try (exfalso; omega)) | (refine wq_ifge ⟨by omega, by omega⟩ (fun _ => ?_) (fun _ => ?_) <;> try (exfalso; omega)) | (refine wq_ifgt ⟨by omega, by omega⟩ (fun _ => ?_) (fun _ => ?_) <;> try (exfalso; omega)) | (refine wq_ifle ⟨by omega, by omega⟩ (fun _ => ?_) (fun _ => ?_) <;> try (exfalso; omega)) | refine wq_r rfl rfl rfl rfl rfl rfl ?_))
  exact ⟨by omega, by omega, by omega, by simp [mxN]⟩
theorem lp_unused (h : Gm M g N p X mn lt dp us W) (hb : ∀ j, j < N → 0 ≤ us j ∧ us j ≤ 100000) (n : Nat) : ∀ (z k : Int), (0 ≤ k ∧ k ≤ N ∧ N - k < n ∧ z = smN (fun j => if us j = 0 then 1 else 0) k.toNat) →
    Wp k_X0_unusedRules (4, [(0, .ref g), (1, .int (I z)), (2, .int (I k))], [], M) (fun v M' => v = some (.int (I (smN (fun j => if us j = 0 then 1 else 0) N))) ∧ M' = M) := by
  have hN := h.le
  have hg1 := h.obj
  induction n with
  | zero => intro z k hi; exfalso; omega
  | succ n ih =>
    intro z k hi
    obtain ⟨i1, i2, i3, i4⟩ := hi
    by_cases hk : k < N
    · have hbd := hb k.toNat (by omega)
      have hrr := c_Gr_usesOf (k := k) ⟨by omega, by omega⟩ h
      rw [if_pos (by omega)] at hrr
      repeat (refine wf rfl ?_; first | refine wq_iadd ?_ | refine wq_isub ?_ | refine wq_imul ?_ | refine wq_iinc rfl ?_ | refine wq_goto ?_ | refine wq_k rfl ?_ | refine wq_b rfl rfl ?_ | refine wq_getf (by assumption) rfl ?_ | refine wq_alen (by assumption) rfl ?_)
      refine wf rfl (wq_ge ⟨by omega, by omega⟩ ⟨by omega, by omega⟩ (fun c1 => by exfalso; omega) (fun c1 => ?_))
      repeat (refine wf rfl ?_; first | refine wq_iadd ?_ | refine wq_isub ?_ | refine wq_imul ?_ | refine wq_iinc rfl ?_ | refine wq_goto ?_ | refine wq_k rfl ?_ | refine wq_b rfl rfl ?_ | refine wq_getf (by assumption) rfl ?_ | refine wq_alen (by assumption) rfl ?_)
      refine wf rfl (wq_cv rfl rfl rfl hg1 (hrr.mono ?_))
      rintro v M ⟨rfl, rfl⟩
      refine wf rfl (wq_ifne ⟨by omega, by omega⟩ (fun c2 => ?_) (fun c2 => ?_))
      · repeat' (first | (refine Wp.sub (ih _ _ ?_) ⟨rfl, rfl, rfl, trivial⟩ rfl) | (refine wf rfl ?_; first | refine wq_iadd ?_ | refine wq_isub ?_ | refine wq_imul ?_ | refine wq_iinc rfl ?_ | refine wq_goto ?_ | refine wq_k rfl ?_ | refine wq_b rfl rfl ?_ | refine wq_getf (by assumption) rfl ?_ | refine wq_alen (by assumption) rfl ?_ | fail | (refine wq_eq ⟨by omega, by omega⟩ ⟨by omega, by omega⟩ (fun _ => ?_) (fun _ => ?_) <;> try (exfalso; omega)) | (refine wq_ne ⟨by omega, by omega⟩ ⟨by omega, by omega⟩ (fun _ => ?_) (fun _ => ?_) <;> try (exfalso; omega)) | (refine wq_lt ⟨by omega, by omega⟩ ⟨by omega, by omega⟩ (fun _ => ?_) (fun _ => ?_) <;> try (exfalso; omega)) | (refine wq_ge ⟨by omega, by omega⟩ ⟨by omega, by omega⟩ (fun _ => ?_) (fun _ => ?_) <;> try (exfalso; omega)) | (refine wq_gt ⟨by omega, by omega⟩ ⟨by omega, by omega⟩ (fun _ => ?_) (fun _ => ?_) <;> try (exfalso; omega)) | (refine wq_le ⟨by omega, by omega⟩ ⟨by omega, by omega⟩ (fun _ => ?_) (fun _ => ?_) <;> try (exfalso; omega)) | (refine wq_ifeq ⟨by omega, by omega⟩ (fun _ => ?_) (fun _ => ?_) <;> try (exfalso; omega)) | (refine wq_ifne ⟨by omega, by omega⟩ (fun _ => ?_) (fun _ => ?_) <;> try (exfalso; omega)) | (refine wq_iflt ⟨by omega, by omega⟩ (fun _ => ?_) (fun _ => ?_) <;> try (exfalso; omega)) | (refine wq_ifge ⟨by omega, by omega⟩ (fun _ => ?_) (fun _ => ?_) <;> try (exfalso; omega)) | (refine wq_ifgt ⟨by omega, by omega⟩ (fun _ => ?_) (fun _ => ?_) <;> try (exfalso; omega)) | (refine wq_ifle ⟨by omega, by omega⟩ (fun _ => ?_) (fun _ => ?_) <;> try (exfalso; omega)) | refine wq_r rfl rfl rfl rfl rfl rfl ?_))
        exact ⟨by omega, by omega, by omega, by rw [show (k + 1).toNat = k.toNat + 1 by omega, smN, i4, if_neg c2]⟩
      · repeat' (first | (refine Wp.sub (ih _ _ ?_) ⟨rfl, rfl, rfl, trivial⟩ rfl) | (refine wf rfl ?_; first | refine wq_iadd ?_ | refine wq_isub ?_ | refine wq_imul ?_ | refine wq_iinc rfl ?_ | refine wq_goto ?_ | refine wq_k rfl ?_ | refine wq_b rfl rfl ?_ | refine wq_getf (by assumption) rfl ?_ | refine wq_alen (by assumption) rfl ?_ | fail | (refine wq_eq ⟨by omega, by omega⟩ ⟨by omega, by omega⟩ (fun _ => ?_) (fun _ => ?_) <;> try (exfalso; omega)) | (refine wq_ne ⟨by omega, by omega⟩ ⟨by omega, by omega⟩ (fun _ => ?_) (fun _ => ?_) <;> try (exfalso; omega)) | (refine wq_lt ⟨by omega, by omega⟩ ⟨by omega, by omega⟩ (fun _ => ?_) (fun _ => ?_) <;> try (exfalso; omega)) | (refine wq_ge ⟨by omega, by omega⟩ ⟨by omega, by omega⟩ (fun _ => ?_) (fun _ => ?_) <;> try (exfalso; omega)) | (refine wq_gt ⟨by omega, by omega⟩ ⟨by omega, by omega⟩ (fun _ => ?_) (fun _ => ?_) <;> try (exfalso; omega)) | (refine wq_le ⟨by omega, by omega⟩ ⟨by omega, by omega⟩ (fun _ => ?_) (fun _ => ?_) <;> try (exfalso; omega)) | (refine wq_ifeq ⟨by omega, by omega⟩ (fun _ => ?_) (fun _ => ?_) <;> try (exfalso; omega)) | (refine wq_ifne ⟨by omega, by omega⟩ (fun _ => ?_) (fun _ => ?_) <;> try (exfalso; omega)) | (refine wq_iflt ⟨by omega, by omega⟩ (fun _ => ?_) (fun _ => ?_) <;> try (exfalso; omega)) | (refine wq_ifge ⟨by omega, by omega⟩ (fun _ => ?_) (fun _ => ?_) <;> try (exfalso; omega)) | (refine wq_ifgt ⟨by omega, by omega⟩ (fun _ => ?_) (fun _ => ?_) <;> try (exfalso; omega)) | (refine wq_ifle ⟨by omega, by omega⟩ (fun _ => ?_) (fun _ => ?_) <;> try (exfalso; omega)) | refine wq_r rfl rfl rfl rfl rfl rfl ?_))
        exact ⟨by omega, by omega, by omega, by rw [show (k + 1).toNat = k.toNat + 1 by omega, smN, i4, if_pos c2]⟩
    · repeat' (refine wf rfl ?_; first | refine wq_iadd ?_ | refine wq_isub ?_ | refine wq_imul ?_ | refine wq_iinc rfl ?_ | refine wq_goto ?_ | refine wq_k rfl ?_ | refine wq_b rfl rfl ?_ | refine wq_getf (by assumption) rfl ?_ | refine wq_alen (by assumption) rfl ?_ | (refine wq_eq ⟨by omega, by omega⟩ ⟨by omega, by omega⟩ (fun _ => ?_) (fun _ => ?_) <;> try (exfalso; omega)) | (refine wq_ne ⟨by omega, by omega⟩ ⟨by omega, by omega⟩ (fun _ => ?_) (fun _ => ?_) <;> try (exfalso; omega)) | (refine wq_lt ⟨by omega, by omega⟩ ⟨by omega, by omega⟩ (fun _ => ?_) (fun _ => ?_) <;> try (exfalso; omega)) | (refine wq_ge ⟨by omega, by omega⟩ ⟨by omega, by omega⟩ (fun _ => ?_) (fun _ => ?_) <;> try (exfalso; omega)) | (refine wq_gt ⟨by omega, by omega⟩ ⟨by omega, by omega⟩ (fun _ => ?_) (fun _ => ?_) <;> try (exfalso; omega)) | (refine wq_le ⟨by omega, by omega⟩ ⟨by omega, by omega⟩ (fun _ => ?_) (fun _ => ?_) <;> try (exfalso; omega)) | (refine wq_ifeq ⟨by omega, by omega⟩ (fun _ => ?_) (fun _ => ?_) <;> try (exfalso; omega)) | (refine wq_ifne ⟨by omega, by omega⟩ (fun _ => ?_) (fun _ => ?_) <;> try (exfalso; omega)) | (refine wq_iflt ⟨by omega, by omega⟩ (fun _ => ?_) (fun _ => ?_) <;> try (exfalso; omega)) | (refine wq_ifge ⟨by omega, by omega⟩ (fun _ => ?_) (fun _ => ?_) <;> try (exfalso; omega)) | (refine wq_ifgt ⟨by omega, by omega⟩ (fun _ => ?_) (fun _ => ?_) <;> try (exfalso; omega)) | (refine wq_ifle ⟨by omega, by omega⟩ (fun _ => ?_) (fun _ => ?_) <;> try (exfalso; omega)) | refine wq_r rfl rfl rfl rfl rfl rfl ?_)
      · exact ⟨by rw [i4, show k.toNat = N by omega], rfl⟩
theorem c_Gr_unusedRules (h : Gm M g N p X mn lt dp us W) (hb : ∀ j, j < N → 0 ≤ us j ∧ us j ≤ 100000) : Wm 18 [.ref g] M (fun v M' => v = some (.int (I (smN (fun j => if us j = 0 then 1 else 0) N))) ∧ M' = M) := by
  have hN := h.le
  refine wm_in (lv := _) rfl rfl rfl ?_
  repeat' (first | (refine Wp.sub (lp_unused h hb 100 _ _ ?_) ⟨rfl, rfl, rfl, trivial⟩ rfl) | (refine wf rfl ?_; first | refine wq_iadd ?_ | refine wq_isub ?_ | refine wq_imul ?_ | refine wq_iinc rfl ?_ | refine wq_goto ?_ | refine wq_k rfl ?_ | refine wq_b rfl rfl ?_ | refine wq_getf (by assumption) rfl ?_ | refine wq_alen (by assumption) rfl ?_ | fail | (refine wq_eq ⟨by omega, by omega⟩ ⟨by omega, by omega⟩ (fun _ => ?_) (fun _ => ?_) <;> try (exfalso; omega)) | (refine wq_ne ⟨by omega, by omega⟩ ⟨by omega, by omega⟩ (fun _ => ?_) (fun _ => ?_) <;> try (exfalso; omega)) | (refine wq_lt ⟨by omega, by omega⟩ ⟨by omega, by omega⟩ (fun _ => ?_) (fun _ => ?_) <;> try (exfalso; omega)) | (refine wq_ge ⟨by omega, by omega⟩ ⟨by omega, by omega⟩ (fun _ => ?_) (fun _ => ?_) <;> try (exfalso; omega)) | (refine wq_gt ⟨by omega, by omega⟩ ⟨by omega, by omega⟩ (fun _ => ?_) (fun _ => ?_) <;> try (exfalso; omega)) | (refine wq_le ⟨by omega, by omega⟩ ⟨by omega, by omega⟩ (fun _ => ?_) (fun _ => ?_) <;> try (exfalso; omega)) | (refine wq_ifeq ⟨by omega, by omega⟩ (fun _ => ?_) (fun _ => ?_) <;> try (exfalso; omega)) | (refine wq_ifne ⟨by omega, by omega⟩ (fun _ => ?_) (fun _ => ?_) <;> try (exfalso; omega)) | (refine wq_iflt ⟨by omega, by omega⟩ (fun _ => ?_) (fun _ => ?_) <;> try (exfalso; omega)) | (refine wq_ifge ⟨by omega, by omega⟩ (fun _ => ?_) (fun _ => ?_) <;> try (exfalso; omega)) | (refine wq_ifgt ⟨by omega, by omega⟩ (fun _ => ?_) (fun _ => ?_) <;> try (exfalso; omega)) | (refine wq_ifle ⟨by omega, by omega⟩ (fun _ => ?_) (fun _ => ?_) <;> try (exfalso; omega)) | refine wq_r rfl rfl rfl rfl rfl rfl ?_))
  exact ⟨by omega, by omega, by omega, by simp [smN]⟩
theorem lp_tooMuch (h : Gm M g N p X mn lt dp us W) (hb : ∀ j, j < N → 0 ≤ lt j ∧ lt j ≤ 10000) (hW : inR W) (n : Nat) : ∀ (k : Int), (0 ≤ k ∧ k ≤ N ∧ N - k < n ∧ ∀ j, j < k.toNat → lt j ≤ 9999) →
    Wp k_X0_tellsTooMuch (2, [(0, .ref g), (1, .int (I k))], [], M) (fun v M' => ((v = some (.int (I 0)) ∧ W ≤ 9999 ∧ ∀ j, j < N → lt j ≤ 9999) ∨ (v = some (.int (I 1)) ∧ (9999 < W ∨ ∃ j, j < N ∧ 9999 < lt j))) ∧ M' = M) := by
  have hN := h.le
  have hg1 := h.obj
  obtain ⟨hW1, hW2⟩ := hW
  induction n with
  | zero => intro k hi; exfalso; omega
  | succ n ih =>
    intro k hi
    obtain ⟨i1, i2, i3, i4⟩ := hi
    by_cases hk : k < N
    · have hbd := hb k.toNat (by omega)
      have hrr := c_Gr_lettersOfRule (k := k) ⟨by omega, by omega⟩ h
      rw [if_pos (by omega)] at hrr
      repeat (refine wf rfl ?_; first | refine wq_iadd ?_ | refine wq_isub ?_ | refine wq_imul ?_ | refine wq_iinc rfl ?_ | refine wq_goto ?_ | refine wq_k rfl ?_ | refine wq_b rfl rfl ?_ | refine wq_getf (by assumption) rfl ?_ | refine wq_alen (by assumption) rfl ?_)
      refine wf rfl (wq_ge ⟨by omega, by omega⟩ ⟨by omega, by omega⟩ (fun c1 => by exfalso; omega) (fun c1 => ?_))
      repeat (refine wf rfl ?_; first | refine wq_iadd ?_ | refine wq_isub ?_ | refine wq_imul ?_ | refine wq_iinc rfl ?_ | refine wq_goto ?_ | refine wq_k rfl ?_ | refine wq_b rfl rfl ?_ | refine wq_getf (by assumption) rfl ?_ | refine wq_alen (by assumption) rfl ?_)
      refine wf rfl (wq_cv rfl rfl rfl hg1 (hrr.mono ?_))
      rintro v M ⟨rfl, rfl⟩
      repeat' (first | (refine Wp.sub (ih _ ?_) ⟨rfl, rfl, trivial⟩ rfl) | (refine wf rfl ?_; first | refine wq_iadd ?_ | refine wq_isub ?_ | refine wq_imul ?_ | refine wq_iinc rfl ?_ | refine wq_goto ?_ | refine wq_k rfl ?_ | refine wq_b rfl rfl ?_ | refine wq_getf (by assumption) rfl ?_ | refine wq_alen (by assumption) rfl ?_ | fail | (refine wq_eq ⟨by omega, by omega⟩ ⟨by omega, by omega⟩ (fun _ => ?_) (fun _ => ?_) <;> try (exfalso; omega)) | (refine wq_ne ⟨by omega, by omega⟩ ⟨by omega, by omega⟩ (fun _ => ?_) (fun _ => ?_) <;> try (exfalso; omega)) | (refine wq_lt ⟨by omega, by omega⟩ ⟨by omega, by omega⟩ (fun _ => ?_) (fun _ => ?_) <;> try (exfalso; omega)) | (refine wq_ge ⟨by omega, by omega⟩ ⟨by omega, by omega⟩ (fun _ => ?_) (fun _ => ?_) <;> try (exfalso; omega)) | (refine wq_gt ⟨by omega, by omega⟩ ⟨by omega, by omega⟩ (fun _ => ?_) (fun _ => ?_) <;> try (exfalso; omega)) | (refine wq_le ⟨by omega, by omega⟩ ⟨by omega, by omega⟩ (fun _ => ?_) (fun _ => ?_) <;> try (exfalso; omega)) | (refine wq_ifeq ⟨by omega, by omega⟩ (fun _ => ?_) (fun _ => ?_) <;> try (exfalso; omega)) | (refine wq_ifne ⟨by omega, by omega⟩ (fun _ => ?_) (fun _ => ?_) <;> try (exfalso; omega)) | (refine wq_iflt ⟨by omega, by omega⟩ (fun _ => ?_) (fun _ => ?_) <;> try (exfalso; omega)) | (refine wq_ifge ⟨by omega, by omega⟩ (fun _ => ?_) (fun _ => ?_) <;> try (exfalso; omega)) | (refine wq_ifgt ⟨by omega, by omega⟩ (fun _ => ?_) (fun _ => ?_) <;> try (exfalso; omega)) | (refine wq_ifle ⟨by omega, by omega⟩ (fun _ => ?_) (fun _ => ?_) <;> try (exfalso; omega)) | refine wq_r rfl rfl rfl rfl rfl rfl ?_))
      · refine ⟨by omega, by omega, by omega, fun j hj => ?_⟩
        by_cases he : j = k.toNat
        · subst he; omega
        · exact i4 j (by omega)
      · exact ⟨Or.inr ⟨rfl, Or.inr ⟨k.toNat, by omega, by omega⟩⟩, rfl⟩
    · repeat' (refine wf rfl ?_; first | refine wq_iadd ?_ | refine wq_isub ?_ | refine wq_imul ?_ | refine wq_iinc rfl ?_ | refine wq_goto ?_ | refine wq_k rfl ?_ | refine wq_b rfl rfl ?_ | refine wq_getf (by assumption) rfl ?_ | refine wq_alen (by assumption) rfl ?_ | (refine wq_eq ⟨by omega, by omega⟩ ⟨by omega, by omega⟩ (fun _ => ?_) (fun _ => ?_) <;> try (exfalso; omega)) | (refine wq_ne ⟨by omega, by omega⟩ ⟨by omega, by omega⟩ (fun _ => ?_) (fun _ => ?_) <;> try (exfalso; omega)) | (refine wq_lt ⟨by omega, by omega⟩ ⟨by omega, by omega⟩ (fun _ => ?_) (fun _ => ?_) <;> try (exfalso; omega)) | (refine wq_ge ⟨by omega, by omega⟩ ⟨by omega, by omega⟩ (fun _ => ?_) (fun _ => ?_) <;> try (exfalso; omega)) | (refine wq_gt ⟨by omega, by omega⟩ ⟨by omega, by omega⟩ (fun _ => ?_) (fun _ => ?_) <;> try (exfalso; omega)) | (refine wq_le ⟨by omega, by omega⟩ ⟨by omega, by omega⟩ (fun _ => ?_) (fun _ => ?_) <;> try (exfalso; omega)) | (refine wq_ifeq ⟨by omega, by omega⟩ (fun _ => ?_) (fun _ => ?_) <;> try (exfalso; omega)) | (refine wq_ifne ⟨by omega, by omega⟩ (fun _ => ?_) (fun _ => ?_) <;> try (exfalso; omega)) | (refine wq_iflt ⟨by omega, by omega⟩ (fun _ => ?_) (fun _ => ?_) <;> try (exfalso; omega)) | (refine wq_ifge ⟨by omega, by omega⟩ (fun _ => ?_) (fun _ => ?_) <;> try (exfalso; omega)) | (refine wq_ifgt ⟨by omega, by omega⟩ (fun _ => ?_) (fun _ => ?_) <;> try (exfalso; omega)) | (refine wq_ifle ⟨by omega, by omega⟩ (fun _ => ?_) (fun _ => ?_) <;> try (exfalso; omega)) | refine wq_r rfl rfl rfl rfl rfl rfl ?_)
      · exact ⟨Or.inl ⟨rfl, by omega, fun j hj => i4 j (by omega)⟩, rfl⟩
      · exact ⟨Or.inr ⟨rfl, Or.inl (by omega)⟩, rfl⟩
theorem c_Gr_tellsTooMuch (h : Gm M g N p X mn lt dp us W) (hb : ∀ j, j < N → 0 ≤ lt j ∧ lt j ≤ 10000) (hW : inR W) : Wm 19 [.ref g] M (fun v M' => ((v = some (.int (I 0)) ∧ W ≤ 9999 ∧ ∀ j, j < N → lt j ≤ 9999) ∨ (v = some (.int (I 1)) ∧ (9999 < W ∨ ∃ j, j < N ∧ 9999 < lt j))) ∧ M' = M) := by
  have hN := h.le
  refine wm_in (lv := _) rfl rfl rfl ?_
  repeat' (first | (refine Wp.sub (lp_tooMuch h hb hW 100 _ ?_) ⟨rfl, rfl, trivial⟩ rfl) | (refine wf rfl ?_; first | refine wq_iadd ?_ | refine wq_isub ?_ | refine wq_imul ?_ | refine wq_iinc rfl ?_ | refine wq_goto ?_ | refine wq_k rfl ?_ | refine wq_b rfl rfl ?_ | refine wq_getf (by assumption) rfl ?_ | refine wq_alen (by assumption) rfl ?_ | fail | (refine wq_eq ⟨by omega, by omega⟩ ⟨by omega, by omega⟩ (fun _ => ?_) (fun _ => ?_) <;> try (exfalso; omega)) | (refine wq_ne ⟨by omega, by omega⟩ ⟨by omega, by omega⟩ (fun _ => ?_) (fun _ => ?_) <;> try (exfalso; omega)) | (refine wq_lt ⟨by omega, by omega⟩ ⟨by omega, by omega⟩ (fun _ => ?_) (fun _ => ?_) <;> try (exfalso; omega)) | (refine wq_ge ⟨by omega, by omega⟩ ⟨by omega, by omega⟩ (fun _ => ?_) (fun _ => ?_) <;> try (exfalso; omega)) | (refine wq_gt ⟨by omega, by omega⟩ ⟨by omega, by omega⟩ (fun _ => ?_) (fun _ => ?_) <;> try (exfalso; omega)) | (refine wq_le ⟨by omega, by omega⟩ ⟨by omega, by omega⟩ (fun _ => ?_) (fun _ => ?_) <;> try (exfalso; omega)) | (refine wq_ifeq ⟨by omega, by omega⟩ (fun _ => ?_) (fun _ => ?_) <;> try (exfalso; omega)) | (refine wq_ifne ⟨by omega, by omega⟩ (fun _ => ?_) (fun _ => ?_) <;> try (exfalso; omega)) | (refine wq_iflt ⟨by omega, by omega⟩ (fun _ => ?_) (fun _ => ?_) <;> try (exfalso; omega)) | (refine wq_ifge ⟨by omega, by omega⟩ (fun _ => ?_) (fun _ => ?_) <;> try (exfalso; omega)) | (refine wq_ifgt ⟨by omega, by omega⟩ (fun _ => ?_) (fun _ => ?_) <;> try (exfalso; omega)) | (refine wq_ifle ⟨by omega, by omega⟩ (fun _ => ?_) (fun _ => ?_) <;> try (exfalso; omega)) | refine wq_r rfl rfl rfl rfl rfl rfl ?_))
  exact ⟨by omega, by omega, by omega, fun j hj => by simp at hj⟩
end GR5
end
section
def updF {α : Type} (X : Nat → α) (k : Nat) (x : α) : Nat → α := fun j => if j = k then x else X j
theorem updF_at {α : Type} (X : Nat → α) (k : Nat) (x : α) : updF X k x k = x := if_pos rfl
theorem updF_ne {α : Type} (X : Nat → α) {k j : Nat} (x : α) (h : j ≠ k) : updF X k x j = X j := if_neg h
section GR6
variable {M : PM} {g N : Nat} {p : Nat → Nat} {X : Nat → List Int} {mn : List Int} {lt dp us : Nat → Int} {W : Int}
theorem Gm.newRow {M1 : PM} {k : Nat} {xs : List Int} (h : Gm M g N p X mn lt dp us W) (hk : k < 26) (f : Fr (fun q => q = p k ∨ q = p k + 1) M M1) (hr : Rw M1 (p k) xs) : Gm M1 g N p (updF X k xs) mn lt dp us W := by
  obtain ⟨q1, ⟨ff, q2, q3⟩, q4, q5, q6, q7, q8, q9, q10, q11⟩ := h
  obtain ⟨a, ha, ea⟩ := q9 k hk
  refine ⟨f.at (by omega) q1, ⟨ff, f.at (by omega) q2, q3⟩, q4.fr f (by omega) (by omega), f.at (by omega) q5, f.at (by omega) q6, f.at (by omega) q7, fun j hj => ?_, q9, q10, q11⟩
  by_cases he : j = k
  · subst he
    rw [updF_at]
    exact hr
  · rw [updF_ne _ _ he]
    obtain ⟨b, hb, eb⟩ := q9 j hj
    have : p j ≠ p k := fun z => he (q10 j k hj hk z)
    exact (q8 j hj).fr f (by omega) (by omega)
theorem Gm.newMain {M1 : PM} {ys : List Int} (h : Gm M g N p X mn lt dp us W) (f : Fr (fun q => q = g + 2 ∨ q = g + 3) M M1) (hr : Rw M1 (g + 2) ys) : Gm M1 g N p X ys lt dp us W := by
  obtain ⟨q1, ⟨ff, q2, q3⟩, q4, q5, q6, q7, q8, q9, q10, q11⟩ := h
  refine ⟨f.at (by omega) q1, ⟨ff, f.at (by omega) q2, q3⟩, hr, f.at (by omega) q5, f.at (by omega) q6, f.at (by omega) q7, fun j hj => ?_, q9, q10, q11⟩
  obtain ⟨b, hb, eb⟩ := q9 j hj
  exact (q8 j hj).fr f (by omega) (by omega)
theorem Gm.pos (h : Gm M g N p X mn lt dp us W) {k : Nat} (hk : k < 26) : ∃ j, j < 26 ∧ p k = g + 7 + 2 * j := h.2.2.2.2.2.2.2.1 k hk
/-- the cells of a grammar -/
def inG (g : Nat) (q : Nat) : Prop := g ≤ q ∧ q < g + 59
theorem c_Gr_clear (h : Gm M g N p X mn lt dp us W) : Wm 1 [.ref g] M (fun v M' => v = none ∧ Fr (inG g) M M' ∧ ∃ lt' dp' us' W', Gm M' g 0 p X [] lt' dp' us' W' ∧ Ms 0 X [] lt' dp' us' W') := by
  have hg1 := h.obj
  obtain ⟨-, -, hmn, hl1, hd1, hu1, -⟩ := id h
  refine wm_in (lv := _) rfl rfl rfl ?_
  repeat (refine wf rfl ?_; first | refine wq_iadd ?_ | refine wq_isub ?_ | refine wq_imul ?_ | refine wq_iinc rfl ?_ | refine wq_goto ?_ | refine wq_k rfl ?_ | refine wq_b rfl rfl ?_ | refine wq_getf (by assumption) rfl ?_ | refine wq_alen (by assumption) rfl ?_)
  refine wf rfl (wq_putf hg1 rfl (fun M1 e1 f1 => ?_))
  have h1 : Gm M1 g 0 p X mn lt dp us W := h.upd (f1.mono (fun q hq => by omega)) e1 (f1.at (by omega) hl1) (f1.at (by omega) hd1) (f1.at (by omega) hu1) (by omega)
  have hc := c_Row_clear h1.main
  have hg11 := h1.obj
  obtain ⟨gr, k1, k2, k3, k4⟩ := h1.main
  repeat (refine wf rfl ?_; first | refine wq_iadd ?_ | refine wq_isub ?_ | refine wq_imul ?_ | refine wq_iinc rfl ?_ | refine wq_goto ?_ | refine wq_k rfl ?_ | refine wq_b rfl rfl ?_ | refine wq_getf (by assumption) rfl ?_ | refine wq_alen (by assumption) rfl ?_)
  refine wf rfl (wq_cv rfl rfl rfl k1 (hc.mono ?_))
  rintro v M2 ⟨rfl, hr2, f2⟩
  have h2 := h1.newMain (f2.mono (fun q hq => by omega)) hr2
  have hme := c_Gr_measure h2 (fun k hk => absurd hk (by omega)) (fun s hs => absurd hs (by simp))
  have hg21 := h2.obj
  repeat (refine wf rfl ?_; first | refine wq_iadd ?_ | refine wq_isub ?_ | refine wq_imul ?_ | refine wq_iinc rfl ?_ | refine wq_goto ?_ | refine wq_k rfl ?_ | refine wq_b rfl rfl ?_ | refine wq_getf (by assumption) rfl ?_ | refine wq_alen (by assumption) rfl ?_)
  refine wf rfl (wq_cv rfl rfl rfl hg21 (hme.mono ?_))
  rintro v M3 ⟨rfl, f3, hq⟩
  repeat' (refine wf rfl ?_; first | refine wq_iadd ?_ | refine wq_isub ?_ | refine wq_imul ?_ | refine wq_iinc rfl ?_ | refine wq_goto ?_ | refine wq_k rfl ?_ | refine wq_b rfl rfl ?_ | refine wq_getf (by assumption) rfl ?_ | refine wq_alen (by assumption) rfl ?_ | (refine wq_eq ⟨by omega, by omega⟩ ⟨by omega, by omega⟩ (fun _ => ?_) (fun _ => ?_) <;> try (exfalso; omega)) | (refine wq_ne ⟨by omega, by omega⟩ ⟨by omega, by omega⟩ (fun _ => ?_) (fun _ => ?_) <;> try (exfalso; omega)) | (refine wq_lt ⟨by omega, by omega⟩ ⟨by omega, by omega⟩ (fun _ => ?_) (fun _ => ?_) <;> try (exfalso; omega)) | (refine wq_ge ⟨by omega, by omega⟩ ⟨by omega, by omega⟩ (fun _ => ?_) (fun _ => ?_) <;> try (exfalso; omega)) | (refine wq_gt ⟨by omega, by omega⟩ ⟨by omega, by omega⟩ (fun _ => ?_) (fun _ => ?_) <;> try (exfalso; omega)) | (refine wq_le ⟨by omega, by omega⟩ ⟨by omega, by omega⟩ (fun _ => ?_) (fun _ => ?_) <;> try (exfalso; omega)) | (refine wq_ifeq ⟨by omega, by omega⟩ (fun _ => ?_) (fun _ => ?_) <;> try (exfalso; omega)) | (refine wq_ifne ⟨by omega, by omega⟩ (fun _ => ?_) (fun _ => ?_) <;> try (exfalso; omega)) | (refine wq_iflt ⟨by omega, by omega⟩ (fun _ => ?_) (fun _ => ?_) <;> try (exfalso; omega)) | (refine wq_ifge ⟨by omega, by omega⟩ (fun _ => ?_) (fun _ => ?_) <;> try (exfalso; omega)) | (refine wq_ifgt ⟨by omega, by omega⟩ (fun _ => ?_) (fun _ => ?_) <;> try (exfalso; omega)) | (refine wq_ifle ⟨by omega, by omega⟩ (fun _ => ?_) (fun _ => ?_) <;> try (exfalso; omega)) | refine wq_r rfl rfl rfl rfl rfl rfl ?_)
  exact ⟨rfl, ((f1.mono (fun q hq => by unfold inG; omega)).tr (f2.mono (fun q hq => by unfold inG; omega))).tr (f3.mono (fun q hq => by unfold inG; omega)), hq⟩
variable {h N' : Nat} {p' : Nat → Nat} {X' : Nat → List Int} {mn' : List Int} {lt' dp' us' : Nat → Int} {W' : Int}
theorem lp_gcopy (hgh : g + 59 ≤ h ∨ h + 59 ≤ g) (n : Nat) : ∀ (k : Int) (M1 : PM), (0 ≤ k ∧ k ≤ N' ∧ N' - k < n ∧ Fr (inG g) M M1 ∧ Gm M1 h N' p' X' mn' lt' dp' us' W' ∧ ∃ X1, Gm M1 g N' p X1 mn lt dp us W ∧ ∀ j, j < k.toNat → X1 j = X' j) →
    Wp k_X0_copy (10, [(0, .ref g), (1, .ref h), (2, .int (I k))], [], M1) (fun v M' => v = none ∧ Fr (inG g) M M' ∧ ∃ X2 lt2 dp2 us2, Gm M' g N' p X2 mn' lt2 dp2 us2 W' ∧ ∀ k, k < N' → X2 k = X' k ∧ lt2 k = lt' k ∧ dp2 k = dp' k ∧ us2 k = us' k) := by
  induction n with
  | zero => intro k M1 hi; exfalso; omega
  | succ n ih =>
    intro k M1 hi
    obtain ⟨i1, i2, i3, i4, hh, X1, hg, i5⟩ := hi
    have hN := hh.le
    have hg1 := hg.obj
    have hh1 := hh.obj
    obtain ⟨-, ⟨f, hf1, hf2⟩, hmn, hl1, hd1, hu1, -⟩ := id hg
    obtain ⟨-, ⟨f', hf1', hf2'⟩, hmn', hl1', hd1', hu1', -⟩ := id hh
    by_cases hk : k < N'
    · have hkk : k.toNat < 26 := by omega
      obtain ⟨a, ha, ea⟩ := hg.pos hkk
      obtain ⟨b, hb, eb⟩ := hh.pos hkk
      have hcp := c_Row_copy (hg.row hkk) (hh.row hkk) (by omega)
      obtain ⟨gr, k1, k2, k3, k4⟩ := hg.row hkk
      repeat (refine wf rfl ?_; first | refine wq_iadd ?_ | refine wq_isub ?_ | refine wq_imul ?_ | refine wq_iinc rfl ?_ | refine wq_goto ?_ | refine wq_k rfl ?_ | refine wq_b rfl rfl ?_ | refine wq_getf (by assumption) rfl ?_ | refine wq_alen (by assumption) rfl ?_)
      refine wf rfl (wq_ge ⟨by omega, by omega⟩ ⟨by omega, by omega⟩ (fun c1 => by exfalso; omega) (fun c1 => ?_))
      repeat (refine wf rfl ?_; first | refine wq_iadd ?_ | refine wq_isub ?_ | refine wq_imul ?_ | refine wq_iinc rfl ?_ | refine wq_goto ?_ | refine wq_k rfl ?_ | refine wq_b rfl rfl ?_ | refine wq_getf (by assumption) rfl ?_ | refine wq_alen (by assumption) rfl ?_)
      refine wf rfl (wq_ge ⟨by omega, by omega⟩ ⟨by omega, by omega⟩ (fun c1 => by exfalso; omega) (fun c1 => ?_))
      repeat (refine wf rfl ?_; first | refine wq_iadd ?_ | refine wq_isub ?_ | refine wq_imul ?_ | refine wq_iinc rfl ?_ | refine wq_goto ?_ | refine wq_k rfl ?_ | refine wq_b rfl rfl ?_ | refine wq_getf (by assumption) rfl ?_ | refine wq_alen (by assumption) rfl ?_)
      refine wf rfl (wq_aald hf1 rfl ⟨by omega, by omega⟩ (by omega) (by omega) (hf2 _ hkk) ?_)
      repeat (refine wf rfl ?_; first | refine wq_iadd ?_ | refine wq_isub ?_ | refine wq_imul ?_ | refine wq_iinc rfl ?_ | refine wq_goto ?_ | refine wq_k rfl ?_ | refine wq_b rfl rfl ?_ | refine wq_getf (by assumption) rfl ?_ | refine wq_alen (by assumption) rfl ?_)
      refine wf rfl (wq_aald hf1' rfl ⟨by omega, by omega⟩ (by omega) (by omega) (hf2' _ hkk) ?_)
      refine wf rfl (wq_cv rfl rfl rfl k1 (hcp.mono ?_))
      rintro v M2 ⟨rfl, hr2, f2⟩
      repeat' (first | (refine Wp.sub (ih _ _ ?_) ⟨rfl, rfl, rfl, trivial⟩ rfl) | (refine wf rfl ?_; first | refine wq_iadd ?_ | refine wq_isub ?_ | refine wq_imul ?_ | refine wq_iinc rfl ?_ | refine wq_goto ?_ | refine wq_k rfl ?_ | refine wq_b rfl rfl ?_ | refine wq_getf (by assumption) rfl ?_ | refine wq_alen (by assumption) rfl ?_ | fail | (refine wq_eq ⟨by omega, by omega⟩ ⟨by omega, by omega⟩ (fun _ => ?_) (fun _ => ?_) <;> try (exfalso; omega)) | (refine wq_ne ⟨by omega, by omega⟩ ⟨by omega, by omega⟩ (fun _ => ?_) (fun _ => ?_) <;> try (exfalso; omega)) | (refine wq_lt ⟨by omega, by omega⟩ ⟨by omega, by omega⟩ (fun _ => ?_) (fun _ => ?_) <;> try (exfalso; omega)) | (refine wq_ge ⟨by omega, by omega⟩ ⟨by omega, by omega⟩ (fun _ => ?_) (fun _ => ?_) <;> try (exfalso; omega)) | (refine wq_gt ⟨by omega, by omega⟩ ⟨by omega, by omega⟩ (fun _ => ?_) (fun _ => ?_) <;> try (exfalso; omega)) | (refine wq_le ⟨by omega, by omega⟩ ⟨by omega, by omega⟩ (fun _ => ?_) (fun _ => ?_) <;> try (exfalso; omega)) | (refine wq_ifeq ⟨by omega, by omega⟩ (fun _ => ?_) (fun _ => ?_) <;> try (exfalso; omega)) | (refine wq_ifne ⟨by omega, by omega⟩ (fun _ => ?_) (fun _ => ?_) <;> try (exfalso; omega)) | (refine wq_iflt ⟨by omega, by omega⟩ (fun _ => ?_) (fun _ => ?_) <;> try (exfalso; omega)) | (refine wq_ifge ⟨by omega, by omega⟩ (fun _ => ?_) (fun _ => ?_) <;> try (exfalso; omega)) | (refine wq_ifgt ⟨by omega, by omega⟩ (fun _ => ?_) (fun _ => ?_) <;> try (exfalso; omega)) | (refine wq_ifle ⟨by omega, by omega⟩ (fun _ => ?_) (fun _ => ?_) <;> try (exfalso; omega)) | refine wq_r rfl rfl rfl rfl rfl rfl ?_))
      refine ⟨by omega, by omega, by omega, i4.tr (f2.mono (fun q hq => by unfold inG; omega)), hh.fr f2 (fun q h1 h2 => by omega), _, hg.newRow hkk f2 hr2, fun j hj => ?_⟩
      by_cases he : j = k.toNat
      · subst he; rw [updF_at]
      · rw [updF_ne _ _ he]; exact i5 j (by omega)
    · have ek : k.toNat = N' := by omega
      have hcp := c_Row_copy hmn hmn' (by omega)
      obtain ⟨gr, k1, k2, k3, k4⟩ := id hmn
      repeat (refine wf rfl ?_; first | refine wq_iadd ?_ | refine wq_isub ?_ | refine wq_imul ?_ | refine wq_iinc rfl ?_ | refine wq_goto ?_ | refine wq_k rfl ?_ | refine wq_b rfl rfl ?_ | refine wq_getf (by assumption) rfl ?_ | refine wq_alen (by assumption) rfl ?_)
      refine wf rfl (wq_ge ⟨by omega, by omega⟩ ⟨by omega, by omega⟩ (fun c1 => ?_) (fun c1 => by exfalso; omega))
      repeat (refine wf rfl ?_; first | refine wq_iadd ?_ | refine wq_isub ?_ | refine wq_imul ?_ | refine wq_iinc rfl ?_ | refine wq_goto ?_ | refine wq_k rfl ?_ | refine wq_b rfl rfl ?_ | refine wq_getf (by assumption) rfl ?_ | refine wq_alen (by assumption) rfl ?_)
      refine wf rfl (wq_cv rfl rfl rfl k1 (hcp.mono ?_))
      rintro v M2 ⟨rfl, hr2, f2⟩
      have hg2 := hg.newMain f2 hr2
      have hh2 := hh.fr f2 (fun q h1 h2 => by omega)
      have o2 := hg2.obj
      have oh2 := hh2.obj
      obtain ⟨-, -, -, l2, d2, u2, -⟩ := id hg2
      obtain ⟨-, -, -, l2', d2', u2', -⟩ := id hh2
      repeat (refine wf rfl ?_; first | refine wq_iadd ?_ | refine wq_isub ?_ | refine wq_imul ?_ | refine wq_iinc rfl ?_ | refine wq_goto ?_ | refine wq_k rfl ?_ | refine wq_b rfl rfl ?_ | refine wq_getf (by assumption) rfl ?_ | refine wq_alen (by assumption) rfl ?_)
      refine wf rfl (wq_acopy l2' l2 rfl rfl ⟨by omega, by omega⟩ ⟨by omega, by omega⟩ ⟨by omega, by omega⟩ (by omega) (by omega) (by omega) (by omega) (by omega) rfl (fun M3 e3 f3 => ?_))
      have o3 := f3.at (by omega) o2
      have oh3 := f3.at (by omega) oh2
      have d3 := f3.at (by omega) d2
      have d3' := f3.at (by omega) d2'
      have u3 := f3.at (by omega) u2
      have u3' := f3.at (by omega) u2'
      repeat (refine wf rfl ?_; first | refine wq_iadd ?_ | refine wq_isub ?_ | refine wq_imul ?_ | refine wq_iinc rfl ?_ | refine wq_goto ?_ | refine wq_k rfl ?_ | refine wq_b rfl rfl ?_ | refine wq_getf (by assumption) rfl ?_ | refine wq_alen (by assumption) rfl ?_)
      refine wf rfl (wq_acopy d3' d3 rfl rfl ⟨by omega, by omega⟩ ⟨by omega, by omega⟩ ⟨by omega, by omega⟩ (by omega) (by omega) (by omega) (by omega) (by omega) rfl (fun M4 e4 f4 => ?_))
      have o4 := f4.at (by omega) o3
      have oh4 := f4.at (by omega) oh3
      have l4 := f4.at (by omega) e3
      have u4 := f4.at (by omega) u3
      have u4' := f4.at (by omega) u3'
      repeat (refine wf rfl ?_; first | refine wq_iadd ?_ | refine wq_isub ?_ | refine wq_imul ?_ | refine wq_iinc rfl ?_ | refine wq_goto ?_ | refine wq_k rfl ?_ | refine wq_b rfl rfl ?_ | refine wq_getf (by assumption) rfl ?_ | refine wq_alen (by assumption) rfl ?_)
      refine wf rfl (wq_acopy u4' u4 rfl rfl ⟨by omega, by omega⟩ ⟨by omega, by omega⟩ ⟨by omega, by omega⟩ (by omega) (by omega) (by omega) (by omega) (by omega) rfl (fun M5 e5 f5 => ?_))
      have o5 := f5.at (by omega) o4
      have oh5 := f5.at (by omega) oh4
      have l5 := f5.at (by omega) l4
      have d5 := f5.at (by omega) e4
      repeat (refine wf rfl ?_; first | refine wq_iadd ?_ | refine wq_isub ?_ | refine wq_imul ?_ | refine wq_iinc rfl ?_ | refine wq_goto ?_ | refine wq_k rfl ?_ | refine wq_b rfl rfl ?_ | refine wq_getf (by assumption) rfl ?_ | refine wq_alen (by assumption) rfl ?_)
      refine wf rfl (wq_putf o5 rfl (fun M6 e6 f6 => ?_))
      repeat' (refine wf rfl ?_; first | refine wq_iadd ?_ | refine wq_isub ?_ | refine wq_imul ?_ | refine wq_iinc rfl ?_ | refine wq_goto ?_ | refine wq_k rfl ?_ | refine wq_b rfl rfl ?_ | refine wq_getf (by assumption) rfl ?_ | refine wq_alen (by assumption) rfl ?_ | (refine wq_eq ⟨by omega, by omega⟩ ⟨by omega, by omega⟩ (fun _ => ?_) (fun _ => ?_) <;> try (exfalso; omega)) | (refine wq_ne ⟨by omega, by omega⟩ ⟨by omega, by omega⟩ (fun _ => ?_) (fun _ => ?_) <;> try (exfalso; omega)) | (refine wq_lt ⟨by omega, by omega⟩ ⟨by omega, by omega⟩ (fun _ => ?_) (fun _ => ?_) <;> try (exfalso; omega)) | (refine wq_ge ⟨by omega, by omega⟩ ⟨by omega, by omega⟩ (fun _ => ?_) (fun _ => ?_) <;> try (exfalso; omega)) | (refine wq_gt ⟨by omega, by omega⟩ ⟨by omega, by omega⟩ (fun _ => ?_) (fun _ => ?_) <;> try (exfalso; omega)) | (refine wq_le ⟨by omega, by omega⟩ ⟨by omega, by omega⟩ (fun _ => ?_) (fun _ => ?_) <;> try (exfalso; omega)) | (refine wq_ifeq ⟨by omega, by omega⟩ (fun _ => ?_) (fun _ => ?_) <;> try (exfalso; omega)) | (refine wq_ifne ⟨by omega, by omega⟩ (fun _ => ?_) (fun _ => ?_) <;> try (exfalso; omega)) | (refine wq_iflt ⟨by omega, by omega⟩ (fun _ => ?_) (fun _ => ?_) <;> try (exfalso; omega)) | (refine wq_ifge ⟨by omega, by omega⟩ (fun _ => ?_) (fun _ => ?_) <;> try (exfalso; omega)) | (refine wq_ifgt ⟨by omega, by omega⟩ (fun _ => ?_) (fun _ => ?_) <;> try (exfalso; omega)) | (refine wq_ifle ⟨by omega, by omega⟩ (fun _ => ?_) (fun _ => ?_) <;> try (exfalso; omega)) | refine wq_r rfl rfl rfl rfl rfl rfl ?_)
      have fA : Fr (fun q => q = g ∨ q = g + 4 ∨ q = g + 5 ∨ q = g + 6) M2 M6 := (((f3.mono (fun q hq => by omega)).tr (f4.mono (fun q hq => by omega))).tr (f5.mono (fun q hq => by omega))).tr (f6.mono (fun q hq => by omega))
      refine ⟨rfl, (i4.tr (f2.mono (fun q hq => by unfold inG; omega))).tr (fA.mono (fun q hq => by unfold inG; omega)), X1, _, _, _, hg2.upd fA e6 (f6.at (by omega) l5) (f6.at (by omega) d5) (f6.at (by omega) e5) hN, fun j hj => ⟨i5 j (by omega), ?_, ?_, ?_⟩⟩
      · rw [cpz_in (by omega) (by omega)]; congr 1; omega
      · rw [cpz_in (by omega) (by omega)]; congr 1; omega
      · rw [cpz_in (by omega) (by omega)]; congr 1; omega
theorem c_Gr_copy (hgh : g + 59 ≤ h ∨ h + 59 ≤ g) (hg : Gm M g N p X mn lt dp us W) (hh : Gm M h N' p' X' mn' lt' dp' us' W') : Wm 2 [.ref g, .ref h] M (fun v M' => v = none ∧ Fr (inG g) M M' ∧ ∃ X2 lt2 dp2 us2, Gm M' g N' p X2 mn' lt2 dp2 us2 W' ∧ ∀ k, k < N' → X2 k = X' k ∧ lt2 k = lt' k ∧ dp2 k = dp' k ∧ us2 k = us' k) := by
  have hN := hh.le
  have hg1 := hg.obj
  have hh1 := hh.obj
  obtain ⟨-, -, -, hl1, hd1, hu1, -⟩ := id hg
  refine wm_in (lv := _) rfl rfl rfl ?_
  repeat (refine wf rfl ?_; first | refine wq_iadd ?_ | refine wq_isub ?_ | refine wq_imul ?_ | refine wq_iinc rfl ?_ | refine wq_goto ?_ | refine wq_k rfl ?_ | refine wq_b rfl rfl ?_ | refine wq_getf (by assumption) rfl ?_ | refine wq_alen (by assumption) rfl ?_)
  refine wf rfl (wq_putf hg1 rfl (fun M1 e1 f1 => ?_))
  have h1 : Gm M1 g N' p X mn lt dp us W := hg.upd (f1.mono (fun q hq => by omega)) e1 (f1.at (by omega) hl1) (f1.at (by omega) hd1) (f1.at (by omega) hu1) (by omega)
  have h1' := hh.fr f1 (fun q h1 h2 => by omega)
  repeat' (first | (refine Wp.sub (lp_gcopy (p := p) (mn := mn) (lt := lt) (dp := dp) (us := us) (W := W) (p' := p') hgh 100 _ _ ?_) ⟨rfl, rfl, rfl, trivial⟩ rfl) | (refine wf rfl ?_; first | refine wq_iadd ?_ | refine wq_isub ?_ | refine wq_imul ?_ | refine wq_iinc rfl ?_ | refine wq_goto ?_ | refine wq_k rfl ?_ | refine wq_b rfl rfl ?_ | refine wq_getf (by assumption) rfl ?_ | refine wq_alen (by assumption) rfl ?_ | fail | (refine wq_eq ⟨by omega, by omega⟩ ⟨by omega, by omega⟩ (fun _ => ?_) (fun _ => ?_) <;> try (exfalso; omega)) | (refine wq_ne ⟨by omega, by omega⟩ ⟨by omega, by omega⟩ (fun _ => ?_) (fun _ => ?_) <;> try (exfalso; omega)) | (refine wq_lt ⟨by omega, by omega⟩ ⟨by omega, by omega⟩ (fun _ => ?_) (fun _ => ?_) <;> try (exfalso; omega)) | (refine wq_ge ⟨by omega, by omega⟩ ⟨by omega, by omega⟩ (fun _ => ?_) (fun _ => ?_) <;> try (exfalso; omega)) | (refine wq_gt ⟨by omega, by omega⟩ ⟨by omega, by omega⟩ (fun _ => ?_) (fun _ => ?_) <;> try (exfalso; omega)) | (refine wq_le ⟨by omega, by omega⟩ ⟨by omega, by omega⟩ (fun _ => ?_) (fun _ => ?_) <;> try (exfalso; omega)) | (refine wq_ifeq ⟨by omega, by omega⟩ (fun _ => ?_) (fun _ => ?_) <;> try (exfalso; omega)) | (refine wq_ifne ⟨by omega, by omega⟩ (fun _ => ?_) (fun _ => ?_) <;> try (exfalso; omega)) | (refine wq_iflt ⟨by omega, by omega⟩ (fun _ => ?_) (fun _ => ?_) <;> try (exfalso; omega)) | (refine wq_ifge ⟨by omega, by omega⟩ (fun _ => ?_) (fun _ => ?_) <;> try (exfalso; omega)) | (refine wq_ifgt ⟨by omega, by omega⟩ (fun _ => ?_) (fun _ => ?_) <;> try (exfalso; omega)) | (refine wq_ifle ⟨by omega, by omega⟩ (fun _ => ?_) (fun _ => ?_) <;> try (exfalso; omega)) | refine wq_r rfl rfl rfl rfl rfl rfl ?_))
  exact ⟨by omega, by omega, by omega, f1.mono (fun q hq => by unfold inG; omega), h1', X, h1, fun j hj => by simp at hj⟩
end GR6
end
section
section GR7
variable {M : PM} {g N : Nat} {p : Nat → Nat} {X : Nat → List Int} {mn : List Int} {lt dp us : Nat → Int} {W : Int}
theorem WFm.sb {N : Nat} (hN : N ≤ 26) {xs : List Int} (h : WFm N xs) : SB xs := fun s hs => by have := h s hs; omega
theorem WFX.sb {N : Nat} {X : Nat → List Int} (h : WFX N X) {k : Nat} (hk : k < N) (hN : N ≤ 26) : SB (X k) := fun s hs => by have := h k hk s hs; omega
theorem c_Gr_mainSymbol {k : Int} (hk : inR k) (h : Gm M g N p X mn lt dp us W) : Wm 10 [.ref g, .int (I k)] M (fun v M' => v = some (.int (I (rat mn k))) ∧ M' = M) := by
  have hg1 := h.obj
  have hc := c_Row_at hk h.main
  obtain ⟨gr, h1, h2, h3, h4⟩ := h.main
  refine wm_in (lv := _) rfl rfl rfl ?_
  repeat (refine wf rfl ?_; first | refine wq_iadd ?_ | refine wq_isub ?_ | refine wq_imul ?_ | refine wq_iinc rfl ?_ | refine wq_goto ?_ | refine wq_k rfl ?_ | refine wq_b rfl rfl ?_ | refine wq_getf (by assumption) rfl ?_ | refine wq_alen (by assumption) rfl ?_)
  refine wf rfl (wq_cv rfl rfl rfl h1 (hc.mono ?_))
  rintro v M ⟨rfl, rfl⟩
  repeat' (refine wf rfl ?_; first | refine wq_iadd ?_ | refine wq_isub ?_ | refine wq_imul ?_ | refine wq_iinc rfl ?_ | refine wq_goto ?_ | refine wq_k rfl ?_ | refine wq_b rfl rfl ?_ | refine wq_getf (by assumption) rfl ?_ | refine wq_alen (by assumption) rfl ?_ | (refine wq_eq ⟨by omega, by omega⟩ ⟨by omega, by omega⟩ (fun _ => ?_) (fun _ => ?_) <;> try (exfalso; omega)) | (refine wq_ne ⟨by omega, by omega⟩ ⟨by omega, by omega⟩ (fun _ => ?_) (fun _ => ?_) <;> try (exfalso; omega)) | (refine wq_lt ⟨by omega, by omega⟩ ⟨by omega, by omega⟩ (fun _ => ?_) (fun _ => ?_) <;> try (exfalso; omega)) | (refine wq_ge ⟨by omega, by omega⟩ ⟨by omega, by omega⟩ (fun _ => ?_) (fun _ => ?_) <;> try (exfalso; omega)) | (refine wq_gt ⟨by omega, by omega⟩ ⟨by omega, by omega⟩ (fun _ => ?_) (fun _ => ?_) <;> try (exfalso; omega)) | (refine wq_le ⟨by omega, by omega⟩ ⟨by omega, by omega⟩ (fun _ => ?_) (fun _ => ?_) <;> try (exfalso; omega)) | (refine wq_ifeq ⟨by omega, by omega⟩ (fun _ => ?_) (fun _ => ?_) <;> try (exfalso; omega)) | (refine wq_ifne ⟨by omega, by omega⟩ (fun _ => ?_) (fun _ => ?_) <;> try (exfalso; omega)) | (refine wq_iflt ⟨by omega, by omega⟩ (fun _ => ?_) (fun _ => ?_) <;> try (exfalso; omega)) | (refine wq_ifge ⟨by omega, by omega⟩ (fun _ => ?_) (fun _ => ?_) <;> try (exfalso; omega)) | (refine wq_ifgt ⟨by omega, by omega⟩ (fun _ => ?_) (fun _ => ?_) <;> try (exfalso; omega)) | (refine wq_ifle ⟨by omega, by omega⟩ (fun _ => ?_) (fun _ => ?_) <;> try (exfalso; omega)) | refine wq_r rfl rfl rfl rfl rfl rfl ?_)
  exact ⟨rfl, rfl⟩
theorem c_Gr_positionInMain (h : Gm M g N p X mn lt dp us W) (hb : SB mn) (hf : ∀ s ∈ mn, 0 ≤ lsy N lt s ∧ lsy N lt s ≤ 10000) {q : Int} (hq : inR q) : Wm 25 [.ref g, .int (I q)] M (fun v M' => v = some (.int (I (posL (lsy N lt) mn q))) ∧ M' = M) := by
  have hg1 := h.obj
  have hc := c_Gr_positionOf h h.main hb hf hq
  refine wm_in (lv := _) rfl rfl rfl ?_
  repeat (refine wf rfl ?_; first | refine wq_iadd ?_ | refine wq_isub ?_ | refine wq_imul ?_ | refine wq_iinc rfl ?_ | refine wq_goto ?_ | refine wq_k rfl ?_ | refine wq_b rfl rfl ?_ | refine wq_getf (by assumption) rfl ?_ | refine wq_alen (by assumption) rfl ?_)
  refine wf rfl (wq_cv rfl rfl rfl hg1 (hc.mono ?_))
  rintro v M ⟨rfl, rfl⟩
  repeat' (refine wf rfl ?_; first | refine wq_iadd ?_ | refine wq_isub ?_ | refine wq_imul ?_ | refine wq_iinc rfl ?_ | refine wq_goto ?_ | refine wq_k rfl ?_ | refine wq_b rfl rfl ?_ | refine wq_getf (by assumption) rfl ?_ | refine wq_alen (by assumption) rfl ?_ | (refine wq_eq ⟨by omega, by omega⟩ ⟨by omega, by omega⟩ (fun _ => ?_) (fun _ => ?_) <;> try (exfalso; omega)) | (refine wq_ne ⟨by omega, by omega⟩ ⟨by omega, by omega⟩ (fun _ => ?_) (fun _ => ?_) <;> try (exfalso; omega)) | (refine wq_lt ⟨by omega, by omega⟩ ⟨by omega, by omega⟩ (fun _ => ?_) (fun _ => ?_) <;> try (exfalso; omega)) | (refine wq_ge ⟨by omega, by omega⟩ ⟨by omega, by omega⟩ (fun _ => ?_) (fun _ => ?_) <;> try (exfalso; omega)) | (refine wq_gt ⟨by omega, by omega⟩ ⟨by omega, by omega⟩ (fun _ => ?_) (fun _ => ?_) <;> try (exfalso; omega)) | (refine wq_le ⟨by omega, by omega⟩ ⟨by omega, by omega⟩ (fun _ => ?_) (fun _ => ?_) <;> try (exfalso; omega)) | (refine wq_ifeq ⟨by omega, by omega⟩ (fun _ => ?_) (fun _ => ?_) <;> try (exfalso; omega)) | (refine wq_ifne ⟨by omega, by omega⟩ (fun _ => ?_) (fun _ => ?_) <;> try (exfalso; omega)) | (refine wq_iflt ⟨by omega, by omega⟩ (fun _ => ?_) (fun _ => ?_) <;> try (exfalso; omega)) | (refine wq_ifge ⟨by omega, by omega⟩ (fun _ => ?_) (fun _ => ?_) <;> try (exfalso; omega)) | (refine wq_ifgt ⟨by omega, by omega⟩ (fun _ => ?_) (fun _ => ?_) <;> try (exfalso; omega)) | (refine wq_ifle ⟨by omega, by omega⟩ (fun _ => ?_) (fun _ => ?_) <;> try (exfalso; omega)) | refine wq_r rfl rfl rfl rfl rfl rfl ?_)
  exact ⟨rfl, rfl⟩
theorem c_Gr_isBoundary (h : Gm M g N p X mn lt dp us W) (hb : SB mn) (hf : ∀ s ∈ mn, 0 ≤ lsy N lt s ∧ lsy N lt s ≤ 10000) {q : Int} (hq : inR q) : Wm 26 [.ref g, .int (I q)] M (fun v M' => v = some (.int (I (if min (sumL (lsy N lt) (mn.take (posL (lsy N lt) mn q).toNat)) 10000 = q then 1 else 0))) ∧ M' = M) := by
  have hg1 := h.obj
  have hl := h.main.len
  have hc := c_Gr_positionInMain h hb hf hq
  obtain ⟨hq1, hq2⟩ := hq
  have hpb := posL_bd (lsy N lt) mn q
  have hla := c_Gr_lettersAhead h h.main hb hf (q := posL (lsy N lt) mn q) ⟨by omega, by omega⟩
  have bz := sumL_bd (f := lsy N lt) (xs := mn.take (posL (lsy N lt) mn q).toNat) (fun s hs => hf s (List.mem_of_mem_take hs))
  refine wm_in (lv := _) rfl rfl rfl ?_
  repeat (refine wf rfl ?_; first | refine wq_iadd ?_ | refine wq_isub ?_ | refine wq_imul ?_ | refine wq_iinc rfl ?_ | refine wq_goto ?_ | refine wq_k rfl ?_ | refine wq_b rfl rfl ?_ | refine wq_getf (by assumption) rfl ?_ | refine wq_alen (by assumption) rfl ?_)
  refine wf rfl (wq_cv rfl rfl rfl hg1 (hc.mono ?_))
  rintro v M ⟨rfl, rfl⟩
  refine wf rfl (wq_cv rfl rfl rfl hg1 (hla.mono ?_))
  rintro v M ⟨rfl, rfl⟩
  repeat' (refine wf rfl ?_; first | refine wq_iadd ?_ | refine wq_isub ?_ | refine wq_imul ?_ | refine wq_iinc rfl ?_ | refine wq_goto ?_ | refine wq_k rfl ?_ | refine wq_b rfl rfl ?_ | refine wq_getf (by assumption) rfl ?_ | refine wq_alen (by assumption) rfl ?_ | (refine wq_eq ⟨by omega, by omega⟩ ⟨by omega, by omega⟩ (fun _ => ?_) (fun _ => ?_) <;> try (exfalso; omega)) | (refine wq_ne ⟨by omega, by omega⟩ ⟨by omega, by omega⟩ (fun _ => ?_) (fun _ => ?_) <;> try (exfalso; omega)) | (refine wq_lt ⟨by omega, by omega⟩ ⟨by omega, by omega⟩ (fun _ => ?_) (fun _ => ?_) <;> try (exfalso; omega)) | (refine wq_ge ⟨by omega, by omega⟩ ⟨by omega, by omega⟩ (fun _ => ?_) (fun _ => ?_) <;> try (exfalso; omega)) | (refine wq_gt ⟨by omega, by omega⟩ ⟨by omega, by omega⟩ (fun _ => ?_) (fun _ => ?_) <;> try (exfalso; omega)) | (refine wq_le ⟨by omega, by omega⟩ ⟨by omega, by omega⟩ (fun _ => ?_) (fun _ => ?_) <;> try (exfalso; omega)) | (refine wq_ifeq ⟨by omega, by omega⟩ (fun _ => ?_) (fun _ => ?_) <;> try (exfalso; omega)) | (refine wq_ifne ⟨by omega, by omega⟩ (fun _ => ?_) (fun _ => ?_) <;> try (exfalso; omega)) | (refine wq_iflt ⟨by omega, by omega⟩ (fun _ => ?_) (fun _ => ?_) <;> try (exfalso; omega)) | (refine wq_ifge ⟨by omega, by omega⟩ (fun _ => ?_) (fun _ => ?_) <;> try (exfalso; omega)) | (refine wq_ifgt ⟨by omega, by omega⟩ (fun _ => ?_) (fun _ => ?_) <;> try (exfalso; omega)) | (refine wq_ifle ⟨by omega, by omega⟩ (fun _ => ?_) (fun _ => ?_) <;> try (exfalso; omega)) | refine wq_r rfl rfl rfl rfl rfl rfl ?_)
  · exact ⟨by rw [if_neg (by omega)], rfl⟩
  · exact ⟨by rw [if_pos (by omega)], rfl⟩
/-- the main row opened until a letter tells the place; none where there is no room -/
def opnF (N : Nat) (X : Nat → List Int) (f : Int → Int) (q : Int) : Nat → List Int → Option (List Int × Int)
  | 0, _ => none
  | n + 1, mn => if 8 ≤ rat mn (posL f mn q) ∧ rat mn (posL f mn q) < 8 + N then
      (if mn.length + (X (rat mn (posL f mn q) - 8).toNat).length ≤ 81 then opnF N X f q n (mn.take (posL f mn q).toNat ++ (X (rat mn (posL f mn q) - 8).toNat ++ mn.drop ((posL f mn q).toNat + 1))) else none)
    else some (mn, posL f mn q)
theorem lp_openTo (hX : WFX N X) (hne : ∀ k, k < N → 1 ≤ (X k).length) (hlt : ∀ j, j < N → 0 ≤ lt j ∧ lt j ≤ 10000) {q : Int} (hq : inR q) (n : Nat) : ∀ (k : Int) (M1 : PM), (0 ≤ k ∧ k ≤ 27 ∧ 27 - k < n ∧ Fr (inG g) M M1 ∧ ∃ mn1, Gm M1 g N p X mn1 lt dp us W ∧ WFm N mn1 ∧ opnF N X (lsy N lt) q (27 - k).toNat mn1 = opnF N X (lsy N lt) q 27 mn) →
    Wp k_X0_openTo (2, [(0, .ref g), (1, .int (I q)), (2, .int (I k))], [], M1) (fun v M' => Fr (inG g) M M' ∧ ((∃ mn2 z, opnF N X (lsy N lt) q 27 mn = some (mn2, z) ∧ v = some (.int (I z)) ∧ 0 ≤ z ∧ z ≤ mn2.length ∧ Gm M' g N p X mn2 lt dp us W ∧ WFm N mn2) ∨
      (opnF N X (lsy N lt) q 27 mn = none ∧ v = some (.int (I (-4))) ∧ ∃ mn2, Gm M' g N p X mn2 lt dp us W ∧ WFm N mn2))) := by
  induction n with
  | zero => intro k M1 hi; exfalso; omega
  | succ n ih =>
    intro k M1 hi
    obtain ⟨i1, i2, i3, i4, mn1, hg, hm, i5⟩ := hi
    have hN := hg.le
    have hg1 := hg.obj
    by_cases hk : k ≤ 26
    · have hb := hm.sb hN
      have hf := lsy_bd (N := N) (m := N) (lt := lt) (Nat.le_refl _) hlt hm
      have hl := hg.main.len
      have hpi := c_Gr_positionInMain hg hb hf hq
      have hpb := posL_bd (lsy N lt) mn1 q
      rw [show (27 - k).toNat = (26 - k).toNat + 1 by omega, opnF] at i5
      generalize hpos : posL (lsy N lt) mn1 q = z at *
      have hat := c_Row_at (p := z) ⟨by omega, by omega⟩ hg.main
      have bd := rat_bd hb z
      have hir := c_Gr_isRule (k := rat mn1 z) ⟨by omega, by omega⟩ hg
      obtain ⟨gr, h1, h2, h3, h4⟩ := hg.main
      repeat (refine wf rfl ?_; first | refine wq_iadd ?_ | refine wq_isub ?_ | refine wq_imul ?_ | refine wq_iinc rfl ?_ | refine wq_goto ?_ | refine wq_k rfl ?_ | refine wq_b rfl rfl ?_ | refine wq_getf (by assumption) rfl ?_ | refine wq_alen (by assumption) rfl ?_)
      refine wf rfl (wq_gt ⟨by omega, by omega⟩ ⟨by omega, by omega⟩ (fun c1 => by exfalso; omega) (fun c1 => ?_))
      repeat (refine wf rfl ?_; first | refine wq_iadd ?_ | refine wq_isub ?_ | refine wq_imul ?_ | refine wq_iinc rfl ?_ | refine wq_goto ?_ | refine wq_k rfl ?_ | refine wq_b rfl rfl ?_ | refine wq_getf (by assumption) rfl ?_ | refine wq_alen (by assumption) rfl ?_)
      refine wf rfl (wq_cv rfl rfl rfl hg1 (hpi.mono ?_))
      rintro v M1 ⟨rfl, rfl⟩
      repeat (refine wf rfl ?_; first | refine wq_iadd ?_ | refine wq_isub ?_ | refine wq_imul ?_ | refine wq_iinc rfl ?_ | refine wq_goto ?_ | refine wq_k rfl ?_ | refine wq_b rfl rfl ?_ | refine wq_getf (by assumption) rfl ?_ | refine wq_alen (by assumption) rfl ?_)
      refine wf rfl (wq_cv rfl rfl rfl h1 (hat.mono ?_))
      rintro v M1 ⟨rfl, rfl⟩
      repeat (refine wf rfl ?_; first | refine wq_iadd ?_ | refine wq_isub ?_ | refine wq_imul ?_ | refine wq_iinc rfl ?_ | refine wq_goto ?_ | refine wq_k rfl ?_ | refine wq_b rfl rfl ?_ | refine wq_getf (by assumption) rfl ?_ | refine wq_alen (by assumption) rfl ?_)
      refine wf rfl (wq_cv rfl rfl rfl hg1 (hir.mono ?_))
      rintro v M1 ⟨rfl, rfl⟩
      by_cases hru : 8 ≤ rat mn1 z ∧ rat mn1 z < 8 + N
      · rw [if_pos hru] at i5
        rw [if_pos hru]
        have hzl : z < mn1.length := by
          rcases Int.lt_or_le z mn1.length with c | c
          · exact c
          · have := rat_out (xs := mn1) (Or.inr c)
            omega
        have hkr : (rat mn1 z - 8).toNat < 26 := by omega
        have hrr := c_Gr_ruleRow (k := rat mn1 z - 8) ⟨by omega, by omega⟩ hg
        rw [if_pos (by omega)] at hrr
        obtain ⟨jp, hjp, ejp⟩ := hg.pos hkr
        have hop := c_Row_opn (p := z) (by omega) (by omega) (hne _ (by omega)) hg.main (hg.row hkr)
        refine wf rfl (wq_ifne ⟨by omega, by omega⟩ (fun c3 => ?_) (fun c3 => by exfalso; omega))
        repeat (refine wf rfl ?_; first | refine wq_iadd ?_ | refine wq_isub ?_ | refine wq_imul ?_ | refine wq_iinc rfl ?_ | refine wq_goto ?_ | refine wq_k rfl ?_ | refine wq_b rfl rfl ?_ | refine wq_getf (by assumption) rfl ?_ | refine wq_alen (by assumption) rfl ?_)
        refine wf rfl (wq_cv rfl rfl rfl hg1 (hrr.mono ?_))
        rintro v M1 ⟨rfl, rfl⟩
        refine wf rfl (wq_cv rfl rfl rfl h1 (hop.mono ?_))
        rintro v M2 (⟨q1, rfl, rfl⟩ | ⟨q1, rfl, f2, hr⟩)
        · rw [if_neg (by omega)] at i5
          repeat' (refine wf rfl ?_; first | refine wq_iadd ?_ | refine wq_isub ?_ | refine wq_imul ?_ | refine wq_iinc rfl ?_ | refine wq_goto ?_ | refine wq_k rfl ?_ | refine wq_b rfl rfl ?_ | refine wq_getf (by assumption) rfl ?_ | refine wq_alen (by assumption) rfl ?_ | (refine wq_eq ⟨by omega, by omega⟩ ⟨by omega, by omega⟩ (fun _ => ?_) (fun _ => ?_) <;> try (exfalso; omega)) | (refine wq_ne ⟨by omega, by omega⟩ ⟨by omega, by omega⟩ (fun _ => ?_) (fun _ => ?_) <;> try (exfalso; omega)) | (refine wq_lt ⟨by omega, by omega⟩ ⟨by omega, by omega⟩ (fun _ => ?_) (fun _ => ?_) <;> try (exfalso; omega)) | (refine wq_ge ⟨by omega, by omega⟩ ⟨by omega, by omega⟩ (fun _ => ?_) (fun _ => ?_) <;> try (exfalso; omega)) | (refine wq_gt ⟨by omega, by omega⟩ ⟨by omega, by omega⟩ (fun _ => ?_) (fun _ => ?_) <;> try (exfalso; omega)) | (refine wq_le ⟨by omega, by omega⟩ ⟨by omega, by omega⟩ (fun _ => ?_) (fun _ => ?_) <;> try (exfalso; omega)) | (refine wq_ifeq ⟨by omega, by omega⟩ (fun _ => ?_) (fun _ => ?_) <;> try (exfalso; omega)) | (refine wq_ifne ⟨by omega, by omega⟩ (fun _ => ?_) (fun _ => ?_) <;> try (exfalso; omega)) | (refine wq_iflt ⟨by omega, by omega⟩ (fun _ => ?_) (fun _ => ?_) <;> try (exfalso; omega)) | (refine wq_ifge ⟨by omega, by omega⟩ (fun _ => ?_) (fun _ => ?_) <;> try (exfalso; omega)) | (refine wq_ifgt ⟨by omega, by omega⟩ (fun _ => ?_) (fun _ => ?_) <;> try (exfalso; omega)) | (refine wq_ifle ⟨by omega, by omega⟩ (fun _ => ?_) (fun _ => ?_) <;> try (exfalso; omega)) | refine wq_r rfl rfl rfl rfl rfl rfl ?_)
          exact ⟨i4, Or.inr ⟨i5.symm, rfl, mn1, hg, hm⟩⟩
        · rw [if_pos (by omega)] at i5
          have hg2 := hg.newMain f2 hr
          repeat' (first | (refine Wp.sub (ih _ _ ?_) ⟨rfl, rfl, rfl, trivial⟩ rfl) | (refine wf rfl ?_; first | refine wq_iadd ?_ | refine wq_isub ?_ | refine wq_imul ?_ | refine wq_iinc rfl ?_ | refine wq_goto ?_ | refine wq_k rfl ?_ | refine wq_b rfl rfl ?_ | refine wq_getf (by assumption) rfl ?_ | refine wq_alen (by assumption) rfl ?_ | fail | (refine wq_eq ⟨by omega, by omega⟩ ⟨by omega, by omega⟩ (fun _ => ?_) (fun _ => ?_) <;> try (exfalso; omega)) | (refine wq_ne ⟨by omega, by omega⟩ ⟨by omega, by omega⟩ (fun _ => ?_) (fun _ => ?_) <;> try (exfalso; omega)) | (refine wq_lt ⟨by omega, by omega⟩ ⟨by omega, by omega⟩ (fun _ => ?_) (fun _ => ?_) <;> try (exfalso; omega)) | (refine wq_ge ⟨by omega, by omega⟩ ⟨by omega, by omega⟩ (fun _ => ?_) (fun _ => ?_) <;> try (exfalso; omega)) | (refine wq_gt ⟨by omega, by omega⟩ ⟨by omega, by omega⟩ (fun _ => ?_) (fun _ => ?_) <;> try (exfalso; omega)) | (refine wq_le ⟨by omega, by omega⟩ ⟨by omega, by omega⟩ (fun _ => ?_) (fun _ => ?_) <;> try (exfalso; omega)) | (refine wq_ifeq ⟨by omega, by omega⟩ (fun _ => ?_) (fun _ => ?_) <;> try (exfalso; omega)) | (refine wq_ifne ⟨by omega, by omega⟩ (fun _ => ?_) (fun _ => ?_) <;> try (exfalso; omega)) | (refine wq_iflt ⟨by omega, by omega⟩ (fun _ => ?_) (fun _ => ?_) <;> try (exfalso; omega)) | (refine wq_ifge ⟨by omega, by omega⟩ (fun _ => ?_) (fun _ => ?_) <;> try (exfalso; omega)) | (refine wq_ifgt ⟨by omega, by omega⟩ (fun _ => ?_) (fun _ => ?_) <;> try (exfalso; omega)) | (refine wq_ifle ⟨by omega, by omega⟩ (fun _ => ?_) (fun _ => ?_) <;> try (exfalso; omega)) | refine wq_r rfl rfl rfl rfl rfl rfl ?_))
          refine ⟨by omega, by omega, by omega, i4.tr (f2.mono (fun q hq => by unfold inG; omega)), _, hg2, ?_, by rw [show (27 - (k + 1)).toNat = (26 - k).toNat by omega]; exact i5⟩
          intro s hs
          rcases List.mem_append.mp hs with hs | hs
          · exact hm s (List.mem_of_mem_take hs)
          · rcases List.mem_append.mp hs with hs | hs
            · have := hX _ (by omega) s hs
              omega
            · exact hm s (List.mem_of_mem_drop hs)
      · rw [if_neg hru] at i5
        rw [if_neg hru]
        refine wf rfl (wq_ifne ⟨by omega, by omega⟩ (fun c3 => absurd rfl c3) (fun c3 => ?_))
        repeat' (refine wf rfl ?_; first | refine wq_iadd ?_ | refine wq_isub ?_ | refine wq_imul ?_ | refine wq_iinc rfl ?_ | refine wq_goto ?_ | refine wq_k rfl ?_ | refine wq_b rfl rfl ?_ | refine wq_getf (by assumption) rfl ?_ | refine wq_alen (by assumption) rfl ?_ | (refine wq_eq ⟨by omega, by omega⟩ ⟨by omega, by omega⟩ (fun _ => ?_) (fun _ => ?_) <;> try (exfalso; omega)) | (refine wq_ne ⟨by omega, by omega⟩ ⟨by omega, by omega⟩ (fun _ => ?_) (fun _ => ?_) <;> try (exfalso; omega)) | (refine wq_lt ⟨by omega, by omega⟩ ⟨by omega, by omega⟩ (fun _ => ?_) (fun _ => ?_) <;> try (exfalso; omega)) | (refine wq_ge ⟨by omega, by omega⟩ ⟨by omega, by omega⟩ (fun _ => ?_) (fun _ => ?_) <;> try (exfalso; omega)) | (refine wq_gt ⟨by omega, by omega⟩ ⟨by omega, by omega⟩ (fun _ => ?_) (fun _ => ?_) <;> try (exfalso; omega)) | (refine wq_le ⟨by omega, by omega⟩ ⟨by omega, by omega⟩ (fun _ => ?_) (fun _ => ?_) <;> try (exfalso; omega)) | (refine wq_ifeq ⟨by omega, by omega⟩ (fun _ => ?_) (fun _ => ?_) <;> try (exfalso; omega)) | (refine wq_ifne ⟨by omega, by omega⟩ (fun _ => ?_) (fun _ => ?_) <;> try (exfalso; omega)) | (refine wq_iflt ⟨by omega, by omega⟩ (fun _ => ?_) (fun _ => ?_) <;> try (exfalso; omega)) | (refine wq_ifge ⟨by omega, by omega⟩ (fun _ => ?_) (fun _ => ?_) <;> try (exfalso; omega)) | (refine wq_ifgt ⟨by omega, by omega⟩ (fun _ => ?_) (fun _ => ?_) <;> try (exfalso; omega)) | (refine wq_ifle ⟨by omega, by omega⟩ (fun _ => ?_) (fun _ => ?_) <;> try (exfalso; omega)) | refine wq_r rfl rfl rfl rfl rfl rfl ?_)
        exact ⟨i4, Or.inl ⟨mn1, z, i5.symm, rfl, by omega, by omega, hg, hm⟩⟩
    · rw [show (27 - k).toNat = 0 by omega, opnF] at i5
      repeat' (refine wf rfl ?_; first | refine wq_iadd ?_ | refine wq_isub ?_ | refine wq_imul ?_ | refine wq_iinc rfl ?_ | refine wq_goto ?_ | refine wq_k rfl ?_ | refine wq_b rfl rfl ?_ | refine wq_getf (by assumption) rfl ?_ | refine wq_alen (by assumption) rfl ?_ | (refine wq_eq ⟨by omega, by omega⟩ ⟨by omega, by omega⟩ (fun _ => ?_) (fun _ => ?_) <;> try (exfalso; omega)) | (refine wq_ne ⟨by omega, by omega⟩ ⟨by omega, by omega⟩ (fun _ => ?_) (fun _ => ?_) <;> try (exfalso; omega)) | (refine wq_lt ⟨by omega, by omega⟩ ⟨by omega, by omega⟩ (fun _ => ?_) (fun _ => ?_) <;> try (exfalso; omega)) | (refine wq_ge ⟨by omega, by omega⟩ ⟨by omega, by omega⟩ (fun _ => ?_) (fun _ => ?_) <;> try (exfalso; omega)) | (refine wq_gt ⟨by omega, by omega⟩ ⟨by omega, by omega⟩ (fun _ => ?_) (fun _ => ?_) <;> try (exfalso; omega)) | (refine wq_le ⟨by omega, by omega⟩ ⟨by omega, by omega⟩ (fun _ => ?_) (fun _ => ?_) <;> try (exfalso; omega)) | (refine wq_ifeq ⟨by omega, by omega⟩ (fun _ => ?_) (fun _ => ?_) <;> try (exfalso; omega)) | (refine wq_ifne ⟨by omega, by omega⟩ (fun _ => ?_) (fun _ => ?_) <;> try (exfalso; omega)) | (refine wq_iflt ⟨by omega, by omega⟩ (fun _ => ?_) (fun _ => ?_) <;> try (exfalso; omega)) | (refine wq_ifge ⟨by omega, by omega⟩ (fun _ => ?_) (fun _ => ?_) <;> try (exfalso; omega)) | (refine wq_ifgt ⟨by omega, by omega⟩ (fun _ => ?_) (fun _ => ?_) <;> try (exfalso; omega)) | (refine wq_ifle ⟨by omega, by omega⟩ (fun _ => ?_) (fun _ => ?_) <;> try (exfalso; omega)) | refine wq_r rfl rfl rfl rfl rfl rfl ?_)
      exact ⟨i4, Or.inr ⟨i5.symm, rfl, mn1, hg, hm⟩⟩
theorem c_Gr_openTo (h : Gm M g N p X mn lt dp us W) (hX : WFX N X) (hm : WFm N mn) (hne : ∀ k, k < N → 1 ≤ (X k).length) (hlt : ∀ j, j < N → 0 ≤ lt j ∧ lt j ≤ 10000) {q : Int} (hq : inR q) : Wm 27 [.ref g, .int (I q)] M (fun v M' => Fr (inG g) M M' ∧ ((∃ mn2 z, opnF N X (lsy N lt) q 27 mn = some (mn2, z) ∧ v = some (.int (I z)) ∧ 0 ≤ z ∧ z ≤ mn2.length ∧ Gm M' g N p X mn2 lt dp us W ∧ WFm N mn2) ∨
      (opnF N X (lsy N lt) q 27 mn = none ∧ v = some (.int (I (-4))) ∧ ∃ mn2, Gm M' g N p X mn2 lt dp us W ∧ WFm N mn2))) := by
  refine wm_in (lv := _) rfl rfl rfl ?_
  repeat' (first | (refine Wp.sub (lp_openTo (p := p) (dp := dp) (us := us) (W := W) hX hne hlt hq 100 _ _ ?_) ⟨rfl, rfl, rfl, trivial⟩ rfl) | (refine wf rfl ?_; first | refine wq_iadd ?_ | refine wq_isub ?_ | refine wq_imul ?_ | refine wq_iinc rfl ?_ | refine wq_goto ?_ | refine wq_k rfl ?_ | refine wq_b rfl rfl ?_ | refine wq_getf (by assumption) rfl ?_ | refine wq_alen (by assumption) rfl ?_ | fail | (refine wq_eq ⟨by omega, by omega⟩ ⟨by omega, by omega⟩ (fun _ => ?_) (fun _ => ?_) <;> try (exfalso; omega)) | (refine wq_ne ⟨by omega, by omega⟩ ⟨by omega, by omega⟩ (fun _ => ?_) (fun _ => ?_) <;> try (exfalso; omega)) | (refine wq_lt ⟨by omega, by omega⟩ ⟨by omega, by omega⟩ (fun _ => ?_) (fun _ => ?_) <;> try (exfalso; omega)) | (refine wq_ge ⟨by omega, by omega⟩ ⟨by omega, by omega⟩ (fun _ => ?_) (fun _ => ?_) <;> try (exfalso; omega)) | (refine wq_gt ⟨by omega, by omega⟩ ⟨by omega, by omega⟩ (fun _ => ?_) (fun _ => ?_) <;> try (exfalso; omega)) | (refine wq_le ⟨by omega, by omega⟩ ⟨by omega, by omega⟩ (fun _ => ?_) (fun _ => ?_) <;> try (exfalso; omega)) | (refine wq_ifeq ⟨by omega, by omega⟩ (fun _ => ?_) (fun _ => ?_) <;> try (exfalso; omega)) | (refine wq_ifne ⟨by omega, by omega⟩ (fun _ => ?_) (fun _ => ?_) <;> try (exfalso; omega)) | (refine wq_iflt ⟨by omega, by omega⟩ (fun _ => ?_) (fun _ => ?_) <;> try (exfalso; omega)) | (refine wq_ifge ⟨by omega, by omega⟩ (fun _ => ?_) (fun _ => ?_) <;> try (exfalso; omega)) | (refine wq_ifgt ⟨by omega, by omega⟩ (fun _ => ?_) (fun _ => ?_) <;> try (exfalso; omega)) | (refine wq_ifle ⟨by omega, by omega⟩ (fun _ => ?_) (fun _ => ?_) <;> try (exfalso; omega)) | refine wq_r rfl rfl rfl rfl rfl rfl ?_))
  exact ⟨by omega, by omega, by omega, Fr.rf, mn, h, hm, rfl⟩
theorem c_Gr_setInMain (h : Gm M g N p X mn lt dp us W) (hX : WFX N X) (hm : WFm N mn) {k s : Int} (hk : inR k) (hs : 0 ≤ s ∧ s < 8) : Wm 28 [.ref g, .int (I k), .int (I s)] M (fun v M' => v = none ∧ Fr (inG g) M M' ∧ WFm N (rset mn k s) ∧ ∃ lt' dp' us' W', Gm M' g N p X (rset mn k s) lt' dp' us' W' ∧ Ms N X (rset mn k s) lt' dp' us' W') := by
  have hg1 := h.obj
  have hc := c_Row_set (s := s) hk h.main
  obtain ⟨gr, h1, h2, h3, h4⟩ := h.main
  have hw : WFm N (rset mn k s) := by
    unfold rset
    split
    · exact hm
    · intro z hz
      rcases List.mem_or_eq_of_mem_set hz with hz | hz
      · exact hm z hz
      · omega
  refine wm_in (lv := _) rfl rfl rfl ?_
  repeat (refine wf rfl ?_; first | refine wq_iadd ?_ | refine wq_isub ?_ | refine wq_imul ?_ | refine wq_iinc rfl ?_ | refine wq_goto ?_ | refine wq_k rfl ?_ | refine wq_b rfl rfl ?_ | refine wq_getf (by assumption) rfl ?_ | refine wq_alen (by assumption) rfl ?_)
  refine wf rfl (wq_cv rfl rfl rfl h1 (hc.mono ?_))
  rintro v M1 ⟨rfl, hr, f1⟩
  have hg := h.newMain (f1.mono (fun q hq => by omega)) hr
  have hme := c_Gr_measure hg hX hw
  have hg2 := hg.obj
  repeat (refine wf rfl ?_; first | refine wq_iadd ?_ | refine wq_isub ?_ | refine wq_imul ?_ | refine wq_iinc rfl ?_ | refine wq_goto ?_ | refine wq_k rfl ?_ | refine wq_b rfl rfl ?_ | refine wq_getf (by assumption) rfl ?_ | refine wq_alen (by assumption) rfl ?_)
  refine wf rfl (wq_cv rfl rfl rfl hg2 (hme.mono ?_))
  rintro v M2 ⟨rfl, f2, hq⟩
  repeat' (refine wf rfl ?_; first | refine wq_iadd ?_ | refine wq_isub ?_ | refine wq_imul ?_ | refine wq_iinc rfl ?_ | refine wq_goto ?_ | refine wq_k rfl ?_ | refine wq_b rfl rfl ?_ | refine wq_getf (by assumption) rfl ?_ | refine wq_alen (by assumption) rfl ?_ | (refine wq_eq ⟨by omega, by omega⟩ ⟨by omega, by omega⟩ (fun _ => ?_) (fun _ => ?_) <;> try (exfalso; omega)) | (refine wq_ne ⟨by omega, by omega⟩ ⟨by omega, by omega⟩ (fun _ => ?_) (fun _ => ?_) <;> try (exfalso; omega)) | (refine wq_lt ⟨by omega, by omega⟩ ⟨by omega, by omega⟩ (fun _ => ?_) (fun _ => ?_) <;> try (exfalso; omega)) | (refine wq_ge ⟨by omega, by omega⟩ ⟨by omega, by omega⟩ (fun _ => ?_) (fun _ => ?_) <;> try (exfalso; omega)) | (refine wq_gt ⟨by omega, by omega⟩ ⟨by omega, by omega⟩ (fun _ => ?_) (fun _ => ?_) <;> try (exfalso; omega)) | (refine wq_le ⟨by omega, by omega⟩ ⟨by omega, by omega⟩ (fun _ => ?_) (fun _ => ?_) <;> try (exfalso; omega)) | (refine wq_ifeq ⟨by omega, by omega⟩ (fun _ => ?_) (fun _ => ?_) <;> try (exfalso; omega)) | (refine wq_ifne ⟨by omega, by omega⟩ (fun _ => ?_) (fun _ => ?_) <;> try (exfalso; omega)) | (refine wq_iflt ⟨by omega, by omega⟩ (fun _ => ?_) (fun _ => ?_) <;> try (exfalso; omega)) | (refine wq_ifge ⟨by omega, by omega⟩ (fun _ => ?_) (fun _ => ?_) <;> try (exfalso; omega)) | (refine wq_ifgt ⟨by omega, by omega⟩ (fun _ => ?_) (fun _ => ?_) <;> try (exfalso; omega)) | (refine wq_ifle ⟨by omega, by omega⟩ (fun _ => ?_) (fun _ => ?_) <;> try (exfalso; omega)) | refine wq_r rfl rfl rfl rfl rfl rfl ?_)
  exact ⟨rfl, (f1.mono (fun q hq => by unfold inG; omega)).tr (f2.mono (fun q hq => by unfold inG; omega)), hw, hq⟩
theorem c_Gr_putIntoMain (h : Gm M g N p X mn lt dp us W) (hX : WFX N X) (hm : WFm N mn) {k s : Int} (hk : 0 ≤ k ∧ k ≤ mn.length) (hs : 0 ≤ s ∧ s < 8) : Wm 29 [.ref g, .int (I k), .int (I s)] M (fun v M' => Fr (inG g) M M' ∧ ((mn.length = 80 ∧ v = some (.int (I 0)) ∧ ∃ lt' dp' us' W', Gm M' g N p X mn lt' dp' us' W' ∧ Ms N X mn lt' dp' us' W') ∨
    (mn.length < 80 ∧ v = some (.int (I 1)) ∧ WFm N (mn.take k.toNat ++ s :: mn.drop k.toNat) ∧ ∃ lt' dp' us' W', Gm M' g N p X (mn.take k.toNat ++ s :: mn.drop k.toNat) lt' dp' us' W' ∧ Ms N X (mn.take k.toNat ++ s :: mn.drop k.toNat) lt' dp' us' W'))) := by
  have hg1 := h.obj
  have hl := h.main.len
  have hc := c_Row_putIn (p := k) (s := s) ⟨by omega, by omega⟩ h.main
  obtain ⟨gr, h1, h2, h3, h4⟩ := h.main
  have hw : WFm N (mn.take k.toNat ++ s :: mn.drop k.toNat) := by
    intro z hz
    rcases List.mem_append.mp hz with hz | hz
    · exact hm z (List.mem_of_mem_take hz)
    · rcases List.mem_cons.mp hz with hz | hz
      · omega
      · exact hm z (List.mem_of_mem_drop hz)
  refine wm_in (lv := _) rfl rfl rfl ?_
  repeat (refine wf rfl ?_; first | refine wq_iadd ?_ | refine wq_isub ?_ | refine wq_imul ?_ | refine wq_iinc rfl ?_ | refine wq_goto ?_ | refine wq_k rfl ?_ | refine wq_b rfl rfl ?_ | refine wq_getf (by assumption) rfl ?_ | refine wq_alen (by assumption) rfl ?_)
  refine wf rfl (wq_cv rfl rfl rfl h1 (hc.mono ?_))
  rintro v M1 (⟨q1, rfl, rfl⟩ | ⟨q1, rfl, f1, hr⟩)
  · have hme := c_Gr_measure h hX hm
    repeat (refine wf rfl ?_; first | refine wq_iadd ?_ | refine wq_isub ?_ | refine wq_imul ?_ | refine wq_iinc rfl ?_ | refine wq_goto ?_ | refine wq_k rfl ?_ | refine wq_b rfl rfl ?_ | refine wq_getf (by assumption) rfl ?_ | refine wq_alen (by assumption) rfl ?_)
    refine wf rfl (wq_cv rfl rfl rfl hg1 (hme.mono ?_))
    rintro v M2 ⟨rfl, f2, hq⟩
    repeat' (refine wf rfl ?_; first | refine wq_iadd ?_ | refine wq_isub ?_ | refine wq_imul ?_ | refine wq_iinc rfl ?_ | refine wq_goto ?_ | refine wq_k rfl ?_ | refine wq_b rfl rfl ?_ | refine wq_getf (by assumption) rfl ?_ | refine wq_alen (by assumption) rfl ?_ | (refine wq_eq ⟨by omega, by omega⟩ ⟨by omega, by omega⟩ (fun _ => ?_) (fun _ => ?_) <;> try (exfalso; omega)) | (refine wq_ne ⟨by omega, by omega⟩ ⟨by omega, by omega⟩ (fun _ => ?_) (fun _ => ?_) <;> try (exfalso; omega)) | (refine wq_lt ⟨by omega, by omega⟩ ⟨by omega, by omega⟩ (fun _ => ?_) (fun _ => ?_) <;> try (exfalso; omega)) | (refine wq_ge ⟨by omega, by omega⟩ ⟨by omega, by omega⟩ (fun _ => ?_) (fun _ => ?_) <;> try (exfalso; omega)) | (refine wq_gt ⟨by omega, by omega⟩ ⟨by omega, by omega⟩ (fun _ => ?_) (fun _ => ?_) <;> try (exfalso; omega)) | (refine wq_le ⟨by omega, by omega⟩ ⟨by omega, by omega⟩ (fun _ => ?_) (fun _ => ?_) <;> try (exfalso; omega)) | (refine wq_ifeq ⟨by omega, by omega⟩ (fun _ => ?_) (fun _ => ?_) <;> try (exfalso; omega)) | (refine wq_ifne ⟨by omega, by omega⟩ (fun _ => ?_) (fun _ => ?_) <;> try (exfalso; omega)) | (refine wq_iflt ⟨by omega, by omega⟩ (fun _ => ?_) (fun _ => ?_) <;> try (exfalso; omega)) | (refine wq_ifge ⟨by omega, by omega⟩ (fun _ => ?_) (fun _ => ?_) <;> try (exfalso; omega)) | (refine wq_ifgt ⟨by omega, by omega⟩ (fun _ => ?_) (fun _ => ?_) <;> try (exfalso; omega)) | (refine wq_ifle ⟨by omega, by omega⟩ (fun _ => ?_) (fun _ => ?_) <;> try (exfalso; omega)) | refine wq_r rfl rfl rfl rfl rfl rfl ?_)
    exact ⟨f2.mono (fun q hq => by unfold inG; omega), Or.inl ⟨by omega, rfl, hq⟩⟩
  · have hg := h.newMain (f1.mono (fun q hq => by omega)) hr
    have hme := c_Gr_measure hg hX hw
    have hg2 := hg.obj
    repeat (refine wf rfl ?_; first | refine wq_iadd ?_ | refine wq_isub ?_ | refine wq_imul ?_ | refine wq_iinc rfl ?_ | refine wq_goto ?_ | refine wq_k rfl ?_ | refine wq_b rfl rfl ?_ | refine wq_getf (by assumption) rfl ?_ | refine wq_alen (by assumption) rfl ?_)
    refine wf rfl (wq_cv rfl rfl rfl hg2 (hme.mono ?_))
    rintro v M2 ⟨rfl, f2, hq⟩
    repeat' (refine wf rfl ?_; first | refine wq_iadd ?_ | refine wq_isub ?_ | refine wq_imul ?_ | refine wq_iinc rfl ?_ | refine wq_goto ?_ | refine wq_k rfl ?_ | refine wq_b rfl rfl ?_ | refine wq_getf (by assumption) rfl ?_ | refine wq_alen (by assumption) rfl ?_ | (refine wq_eq ⟨by omega, by omega⟩ ⟨by omega, by omega⟩ (fun _ => ?_) (fun _ => ?_) <;> try (exfalso; omega)) | (refine wq_ne ⟨by omega, by omega⟩ ⟨by omega, by omega⟩ (fun _ => ?_) (fun _ => ?_) <;> try (exfalso; omega)) | (refine wq_lt ⟨by omega, by omega⟩ ⟨by omega, by omega⟩ (fun _ => ?_) (fun _ => ?_) <;> try (exfalso; omega)) | (refine wq_ge ⟨by omega, by omega⟩ ⟨by omega, by omega⟩ (fun _ => ?_) (fun _ => ?_) <;> try (exfalso; omega)) | (refine wq_gt ⟨by omega, by omega⟩ ⟨by omega, by omega⟩ (fun _ => ?_) (fun _ => ?_) <;> try (exfalso; omega)) | (refine wq_le ⟨by omega, by omega⟩ ⟨by omega, by omega⟩ (fun _ => ?_) (fun _ => ?_) <;> try (exfalso; omega)) | (refine wq_ifeq ⟨by omega, by omega⟩ (fun _ => ?_) (fun _ => ?_) <;> try (exfalso; omega)) | (refine wq_ifne ⟨by omega, by omega⟩ (fun _ => ?_) (fun _ => ?_) <;> try (exfalso; omega)) | (refine wq_iflt ⟨by omega, by omega⟩ (fun _ => ?_) (fun _ => ?_) <;> try (exfalso; omega)) | (refine wq_ifge ⟨by omega, by omega⟩ (fun _ => ?_) (fun _ => ?_) <;> try (exfalso; omega)) | (refine wq_ifgt ⟨by omega, by omega⟩ (fun _ => ?_) (fun _ => ?_) <;> try (exfalso; omega)) | (refine wq_ifle ⟨by omega, by omega⟩ (fun _ => ?_) (fun _ => ?_) <;> try (exfalso; omega)) | refine wq_r rfl rfl rfl rfl rfl rfl ?_)
    exact ⟨(f1.mono (fun q hq => by unfold inG; omega)).tr (f2.mono (fun q hq => by unfold inG; omega)), Or.inr ⟨by omega, rfl, hw, hq⟩⟩
theorem c_Gr_takeFromMain (h : Gm M g N p X mn lt dp us W) (hX : WFX N X) (hm : WFm N mn) {k : Int} (hk : 0 ≤ k ∧ k < mn.length) : Wm 30 [.ref g, .int (I k)] M (fun v M' => v = none ∧ Fr (inG g) M M' ∧ WFm N (mn.take k.toNat ++ mn.drop (k.toNat + 1)) ∧ ∃ lt' dp' us' W', Gm M' g N p X (mn.take k.toNat ++ mn.drop (k.toNat + 1)) lt' dp' us' W' ∧ Ms N X (mn.take k.toNat ++ mn.drop (k.toNat + 1)) lt' dp' us' W') := by
  have hg1 := h.obj
  have hc := c_Row_takeOut hk h.main
  obtain ⟨gr, h1, h2, h3, h4⟩ := h.main
  have hw : WFm N (mn.take k.toNat ++ mn.drop (k.toNat + 1)) := by
    intro z hz
    rcases List.mem_append.mp hz with hz | hz
    · exact hm z (List.mem_of_mem_take hz)
    · exact hm z (List.mem_of_mem_drop hz)
  refine wm_in (lv := _) rfl rfl rfl ?_
  repeat (refine wf rfl ?_; first | refine wq_iadd ?_ | refine wq_isub ?_ | refine wq_imul ?_ | refine wq_iinc rfl ?_ | refine wq_goto ?_ | refine wq_k rfl ?_ | refine wq_b rfl rfl ?_ | refine wq_getf (by assumption) rfl ?_ | refine wq_alen (by assumption) rfl ?_)
  refine wf rfl (wq_cv rfl rfl rfl h1 (hc.mono ?_))
  rintro v M1 ⟨rfl, f1, hr⟩
  have hg := h.newMain (f1.mono (fun q hq => by omega)) hr
  have hme := c_Gr_measure hg hX hw
  have hg2 := hg.obj
  repeat (refine wf rfl ?_; first | refine wq_iadd ?_ | refine wq_isub ?_ | refine wq_imul ?_ | refine wq_iinc rfl ?_ | refine wq_goto ?_ | refine wq_k rfl ?_ | refine wq_b rfl rfl ?_ | refine wq_getf (by assumption) rfl ?_ | refine wq_alen (by assumption) rfl ?_)
  refine wf rfl (wq_cv rfl rfl rfl hg2 (hme.mono ?_))
  rintro v M2 ⟨rfl, f2, hq⟩
  repeat' (refine wf rfl ?_; first | refine wq_iadd ?_ | refine wq_isub ?_ | refine wq_imul ?_ | refine wq_iinc rfl ?_ | refine wq_goto ?_ | refine wq_k rfl ?_ | refine wq_b rfl rfl ?_ | refine wq_getf (by assumption) rfl ?_ | refine wq_alen (by assumption) rfl ?_ | (refine wq_eq ⟨by omega, by omega⟩ ⟨by omega, by omega⟩ (fun _ => ?_) (fun _ => ?_) <;> try (exfalso; omega)) | (refine wq_ne ⟨by omega, by omega⟩ ⟨by omega, by omega⟩ (fun _ => ?_) (fun _ => ?_) <;> try (exfalso; omega)) | (refine wq_lt ⟨by omega, by omega⟩ ⟨by omega, by omega⟩ (fun _ => ?_) (fun _ => ?_) <;> try (exfalso; omega)) | (refine wq_ge ⟨by omega, by omega⟩ ⟨by omega, by omega⟩ (fun _ => ?_) (fun _ => ?_) <;> try (exfalso; omega)) | (refine wq_gt ⟨by omega, by omega⟩ ⟨by omega, by omega⟩ (fun _ => ?_) (fun _ => ?_) <;> try (exfalso; omega)) | (refine wq_le ⟨by omega, by omega⟩ ⟨by omega, by omega⟩ (fun _ => ?_) (fun _ => ?_) <;> try (exfalso; omega)) | (refine wq_ifeq ⟨by omega, by omega⟩ (fun _ => ?_) (fun _ => ?_) <;> try (exfalso; omega)) | (refine wq_ifne ⟨by omega, by omega⟩ (fun _ => ?_) (fun _ => ?_) <;> try (exfalso; omega)) | (refine wq_iflt ⟨by omega, by omega⟩ (fun _ => ?_) (fun _ => ?_) <;> try (exfalso; omega)) | (refine wq_ifge ⟨by omega, by omega⟩ (fun _ => ?_) (fun _ => ?_) <;> try (exfalso; omega)) | (refine wq_ifgt ⟨by omega, by omega⟩ (fun _ => ?_) (fun _ => ?_) <;> try (exfalso; omega)) | (refine wq_ifle ⟨by omega, by omega⟩ (fun _ => ?_) (fun _ => ?_) <;> try (exfalso; omega)) | refine wq_r rfl rfl rfl rfl rfl rfl ?_)
  exact ⟨rfl, (f1.mono (fun q hq => by unfold inG; omega)).tr (f2.mono (fun q hq => by unfold inG; omega)), hw, hq⟩
end GR7
end
section
def fitU (s : Int) (fl xs : List Int) : Prop := (xs.length : Int) + (cntE s xs : Int) * ((fl.length : Int) - 1) ≤ 80
def canU (N : Nat) (X : Nat → List Int) (mn : List Int) (r : Nat) : Prop := (∀ k, r < k → k < N → fitU (8 + (r : Int)) (X r) (X k)) ∧ fitU (8 + (r : Int)) (X r) mn
theorem unr_length (s : Int) (fl : List Int) : ∀ xs : List Int, ((unr s fl xs).length : Int) = (xs.length : Int) + (cntE s xs : Int) * ((fl.length : Int) - 1)
  | [] => by simp [unr, cntE]
  | x :: r => by
    have ih := unr_length s fl r
    unfold unr at ih ⊢
    rw [List.flatMap_cons, List.length_append, cntE, List.length_cons]
    by_cases h : x = s
    · have e : unr1 s fl x = fl := if_pos h
      rw [e, if_pos h, show (((1 + cntE s r : Nat) : Nat) : Int) = (cntE s r : Int) + 1 by omega, Int.add_mul, Int.one_mul]
      omega
    · have e : (unr1 s fl x).length = 1 := by
        unfold unr1
        rw [if_neg h]
        split <;> rfl
      rw [e, if_neg h, show (((0 + cntE s r : Nat) : Nat) : Int) = (cntE s r : Int) by omega]
      omega
section GR8
variable {M : PM} {g N : Nat} {p : Nat → Nat} {X : Nat → List Int} {mn : List Int} {lt dp us : Nat → Int} {W : Int}
theorem lp_gcanU (h : Gm M g N p X mn lt dp us W) (hX : WFX N X) (hm : WFm N mn) {r : Nat} (hr : r < N) (n : Nat) : ∀ (k : Int), ((r : Int) < k ∧ k ≤ N ∧ N - k < n ∧ ∀ j, r < j → j < k.toNat → fitU (8 + (r : Int)) (X r) (X j)) →
    Wp k_X0_canUnroll (10, [(0, .ref g), (1, .int (I r)), (2, .ref (p r)), (3, .int (I k))], [], M) (fun v M' => ((canU N X mn r ∧ v = some (.int (I 1))) ∨ (¬ canU N X mn r ∧ v = some (.int (I 0)))) ∧ M' = M) := by
  have hN := h.le
  have hg1 := h.obj
  have hrr := h.row (k := r) (by omega)
  induction n with
  | zero => intro k hi; exfalso; omega
  | succ n ih =>
    intro k hi
    obtain ⟨i1, i2, i3, i4⟩ := hi
    by_cases hk : k < N
    · have hkr := h.row (k := k.toNat) (by omega)
      have hru := c_Gr_ruleRow (k := k) ⟨by omega, by omega⟩ h
      rw [if_pos (by omega)] at hru
      have hcu := c_Row_canUnroll (sym := 8 + (r : Int)) ⟨by omega, by omega⟩ (hX.sb (k := k.toNat) (by omega) hN) hkr hrr
      obtain ⟨gr, h1, h2, h3, h4⟩ := hkr
      repeat (refine wf rfl ?_; first | refine wq_iadd ?_ | refine wq_isub ?_ | refine wq_imul ?_ | refine wq_iinc rfl ?_ | refine wq_goto ?_ | refine wq_k rfl ?_ | refine wq_b rfl rfl ?_ | refine wq_getf (by assumption) rfl ?_ | refine wq_alen (by assumption) rfl ?_)
      refine wf rfl (wq_ge ⟨by omega, by omega⟩ ⟨by omega, by omega⟩ (fun c1 => by exfalso; omega) (fun c1 => ?_))
      repeat (refine wf rfl ?_; first | refine wq_iadd ?_ | refine wq_isub ?_ | refine wq_imul ?_ | refine wq_iinc rfl ?_ | refine wq_goto ?_ | refine wq_k rfl ?_ | refine wq_b rfl rfl ?_ | refine wq_getf (by assumption) rfl ?_ | refine wq_alen (by assumption) rfl ?_)
      refine wf rfl (wq_cv rfl rfl rfl hg1 (hru.mono ?_))
      rintro v M ⟨rfl, rfl⟩
      repeat (refine wf rfl ?_; first | refine wq_iadd ?_ | refine wq_isub ?_ | refine wq_imul ?_ | refine wq_iinc rfl ?_ | refine wq_goto ?_ | refine wq_k rfl ?_ | refine wq_b rfl rfl ?_ | refine wq_getf (by assumption) rfl ?_ | refine wq_alen (by assumption) rfl ?_)
      refine wf rfl (wq_cv rfl rfl rfl h1 (hcu.mono ?_))
      rintro v M ⟨rfl, rfl⟩
      by_cases hfit : fitU (8 + (r : Int)) (X r) (X k.toNat)
      · have hfit2 := hfit
        unfold fitU at hfit2
        rw [if_pos hfit2]
        refine wf rfl (wq_ifne ⟨by omega, by omega⟩ (fun c2 => ?_) (fun c2 => by exfalso; omega))
        repeat' (first | (refine Wp.sub (ih _ ?_) ⟨rfl, rfl, rfl, rfl, trivial⟩ rfl) | (refine wf rfl ?_; first | refine wq_iadd ?_ | refine wq_isub ?_ | refine wq_imul ?_ | refine wq_iinc rfl ?_ | refine wq_goto ?_ | refine wq_k rfl ?_ | refine wq_b rfl rfl ?_ | refine wq_getf (by assumption) rfl ?_ | refine wq_alen (by assumption) rfl ?_ | fail | (refine wq_eq ⟨by omega, by omega⟩ ⟨by omega, by omega⟩ (fun _ => ?_) (fun _ => ?_) <;> try (exfalso; omega)) | (refine wq_ne ⟨by omega, by omega⟩ ⟨by omega, by omega⟩ (fun _ => ?_) (fun _ => ?_) <;> try (exfalso; omega)) | (refine wq_lt ⟨by omega, by omega⟩ ⟨by omega, by omega⟩ (fun _ => ?_) (fun _ => ?_) <;> try (exfalso; omega)) | (refine wq_ge ⟨by omega, by omega⟩ ⟨by omega, by omega⟩ (fun _ => ?_) (fun _ => ?_) <;> try (exfalso; omega)) | (refine wq_gt ⟨by omega, by omega⟩ ⟨by omega, by omega⟩ (fun _ => ?_) (fun _ => ?_) <;> try (exfalso; omega)) | (refine wq_le ⟨by omega, by omega⟩ ⟨by omega, by omega⟩ (fun _ => ?_) (fun _ => ?_) <;> try (exfalso; omega)) | (refine wq_ifeq ⟨by omega, by omega⟩ (fun _ => ?_) (fun _ => ?_) <;> try (exfalso; omega)) | (refine wq_ifne ⟨by omega, by omega⟩ (fun _ => ?_) (fun _ => ?_) <;> try (exfalso; omega)) | (refine wq_iflt ⟨by omega, by omega⟩ (fun _ => ?_) (fun _ => ?_) <;> try (exfalso; omega)) | (refine wq_ifge ⟨by omega, by omega⟩ (fun _ => ?_) (fun _ => ?_) <;> try (exfalso; omega)) | (refine wq_ifgt ⟨by omega, by omega⟩ (fun _ => ?_) (fun _ => ?_) <;> try (exfalso; omega)) | (refine wq_ifle ⟨by omega, by omega⟩ (fun _ => ?_) (fun _ => ?_) <;> try (exfalso; omega)) | refine wq_r rfl rfl rfl rfl rfl rfl ?_))
        refine ⟨by omega, by omega, by omega, fun j h1 h2 => ?_⟩
        by_cases he : j = k.toNat
        · subst he; exact hfit
        · exact i4 j h1 (by omega)
      · have hfit2 := hfit
        unfold fitU at hfit2
        rw [if_neg hfit2]
        refine wf rfl (wq_ifne ⟨by omega, by omega⟩ (fun c2 => absurd rfl c2) (fun c2 => ?_))
        repeat' (refine wf rfl ?_; first | refine wq_iadd ?_ | refine wq_isub ?_ | refine wq_imul ?_ | refine wq_iinc rfl ?_ | refine wq_goto ?_ | refine wq_k rfl ?_ | refine wq_b rfl rfl ?_ | refine wq_getf (by assumption) rfl ?_ | refine wq_alen (by assumption) rfl ?_ | (refine wq_eq ⟨by omega, by omega⟩ ⟨by omega, by omega⟩ (fun _ => ?_) (fun _ => ?_) <;> try (exfalso; omega)) | (refine wq_ne ⟨by omega, by omega⟩ ⟨by omega, by omega⟩ (fun _ => ?_) (fun _ => ?_) <;> try (exfalso; omega)) | (refine wq_lt ⟨by omega, by omega⟩ ⟨by omega, by omega⟩ (fun _ => ?_) (fun _ => ?_) <;> try (exfalso; omega)) | (refine wq_ge ⟨by omega, by omega⟩ ⟨by omega, by omega⟩ (fun _ => ?_) (fun _ => ?_) <;> try (exfalso; omega)) | (refine wq_gt ⟨by omega, by omega⟩ ⟨by omega, by omega⟩ (fun _ => ?_) (fun _ => ?_) <;> try (exfalso; omega)) | (refine wq_le ⟨by omega, by omega⟩ ⟨by omega, by omega⟩ (fun _ => ?_) (fun _ => ?_) <;> try (exfalso; omega)) | (refine wq_ifeq ⟨by omega, by omega⟩ (fun _ => ?_) (fun _ => ?_) <;> try (exfalso; omega)) | (refine wq_ifne ⟨by omega, by omega⟩ (fun _ => ?_) (fun _ => ?_) <;> try (exfalso; omega)) | (refine wq_iflt ⟨by omega, by omega⟩ (fun _ => ?_) (fun _ => ?_) <;> try (exfalso; omega)) | (refine wq_ifge ⟨by omega, by omega⟩ (fun _ => ?_) (fun _ => ?_) <;> try (exfalso; omega)) | (refine wq_ifgt ⟨by omega, by omega⟩ (fun _ => ?_) (fun _ => ?_) <;> try (exfalso; omega)) | (refine wq_ifle ⟨by omega, by omega⟩ (fun _ => ?_) (fun _ => ?_) <;> try (exfalso; omega)) | refine wq_r rfl rfl rfl rfl rfl rfl ?_)
        exact ⟨Or.inr ⟨fun z => hfit (z.1 k.toNat (by omega) (by omega)), rfl⟩, rfl⟩
    · have hcu := c_Row_canUnroll (sym := 8 + (r : Int)) ⟨by omega, by omega⟩ (hm.sb hN) h.main hrr
      obtain ⟨gr, h1, h2, h3, h4⟩ := h.main
      repeat (refine wf rfl ?_; first | refine wq_iadd ?_ | refine wq_isub ?_ | refine wq_imul ?_ | refine wq_iinc rfl ?_ | refine wq_goto ?_ | refine wq_k rfl ?_ | refine wq_b rfl rfl ?_ | refine wq_getf (by assumption) rfl ?_ | refine wq_alen (by assumption) rfl ?_)
      refine wf rfl (wq_ge ⟨by omega, by omega⟩ ⟨by omega, by omega⟩ (fun c1 => ?_) (fun c1 => by exfalso; omega))
      repeat (refine wf rfl ?_; first | refine wq_iadd ?_ | refine wq_isub ?_ | refine wq_imul ?_ | refine wq_iinc rfl ?_ | refine wq_goto ?_ | refine wq_k rfl ?_ | refine wq_b rfl rfl ?_ | refine wq_getf (by assumption) rfl ?_ | refine wq_alen (by assumption) rfl ?_)
      refine wf rfl (wq_cv rfl rfl rfl h1 (hcu.mono ?_))
      rintro v M ⟨rfl, rfl⟩
      by_cases hfit : fitU (8 + (r : Int)) (X r) mn
      · have hfit2 := hfit
        unfold fitU at hfit2
        rw [if_pos hfit2]
        repeat' (refine wf rfl ?_; first | refine wq_iadd ?_ | refine wq_isub ?_ | refine wq_imul ?_ | refine wq_iinc rfl ?_ | refine wq_goto ?_ | refine wq_k rfl ?_ | refine wq_b rfl rfl ?_ | refine wq_getf (by assumption) rfl ?_ | refine wq_alen (by assumption) rfl ?_ | (refine wq_eq ⟨by omega, by omega⟩ ⟨by omega, by omega⟩ (fun _ => ?_) (fun _ => ?_) <;> try (exfalso; omega)) | (refine wq_ne ⟨by omega, by omega⟩ ⟨by omega, by omega⟩ (fun _ => ?_) (fun _ => ?_) <;> try (exfalso; omega)) | (refine wq_lt ⟨by omega, by omega⟩ ⟨by omega, by omega⟩ (fun _ => ?_) (fun _ => ?_) <;> try (exfalso; omega)) | (refine wq_ge ⟨by omega, by omega⟩ ⟨by omega, by omega⟩ (fun _ => ?_) (fun _ => ?_) <;> try (exfalso; omega)) | (refine wq_gt ⟨by omega, by omega⟩ ⟨by omega, by omega⟩ (fun _ => ?_) (fun _ => ?_) <;> try (exfalso; omega)) | (refine wq_le ⟨by omega, by omega⟩ ⟨by omega, by omega⟩ (fun _ => ?_) (fun _ => ?_) <;> try (exfalso; omega)) | (refine wq_ifeq ⟨by omega, by omega⟩ (fun _ => ?_) (fun _ => ?_) <;> try (exfalso; omega)) | (refine wq_ifne ⟨by omega, by omega⟩ (fun _ => ?_) (fun _ => ?_) <;> try (exfalso; omega)) | (refine wq_iflt ⟨by omega, by omega⟩ (fun _ => ?_) (fun _ => ?_) <;> try (exfalso; omega)) | (refine wq_ifge ⟨by omega, by omega⟩ (fun _ => ?_) (fun _ => ?_) <;> try (exfalso; omega)) | (refine wq_ifgt ⟨by omega, by omega⟩ (fun _ => ?_) (fun _ => ?_) <;> try (exfalso; omega)) | (refine wq_ifle ⟨by omega, by omega⟩ (fun _ => ?_) (fun _ => ?_) <;> try (exfalso; omega)) | refine wq_r rfl rfl rfl rfl rfl rfl ?_)
        exact ⟨Or.inl ⟨⟨fun j h1 h2 => i4 j h1 (by omega), hfit⟩, rfl⟩, rfl⟩
      · have hfit2 := hfit
        unfold fitU at hfit2
        rw [if_neg hfit2]
        repeat' (refine wf rfl ?_; first | refine wq_iadd ?_ | refine wq_isub ?_ | refine wq_imul ?_ | refine wq_iinc rfl ?_ | refine wq_goto ?_ | refine wq_k rfl ?_ | refine wq_b rfl rfl ?_ | refine wq_getf (by assumption) rfl ?_ | refine wq_alen (by assumption) rfl ?_ | (refine wq_eq ⟨by omega, by omega⟩ ⟨by omega, by omega⟩ (fun _ => ?_) (fun _ => ?_) <;> try (exfalso; omega)) | (refine wq_ne ⟨by omega, by omega⟩ ⟨by omega, by omega⟩ (fun _ => ?_) (fun _ => ?_) <;> try (exfalso; omega)) | (refine wq_lt ⟨by omega, by omega⟩ ⟨by omega, by omega⟩ (fun _ => ?_) (fun _ => ?_) <;> try (exfalso; omega)) | (refine wq_ge ⟨by omega, by omega⟩ ⟨by omega, by omega⟩ (fun _ => ?_) (fun _ => ?_) <;> try (exfalso; omega)) | (refine wq_gt ⟨by omega, by omega⟩ ⟨by omega, by omega⟩ (fun _ => ?_) (fun _ => ?_) <;> try (exfalso; omega)) | (refine wq_le ⟨by omega, by omega⟩ ⟨by omega, by omega⟩ (fun _ => ?_) (fun _ => ?_) <;> try (exfalso; omega)) | (refine wq_ifeq ⟨by omega, by omega⟩ (fun _ => ?_) (fun _ => ?_) <;> try (exfalso; omega)) | (refine wq_ifne ⟨by omega, by omega⟩ (fun _ => ?_) (fun _ => ?_) <;> try (exfalso; omega)) | (refine wq_iflt ⟨by omega, by omega⟩ (fun _ => ?_) (fun _ => ?_) <;> try (exfalso; omega)) | (refine wq_ifge ⟨by omega, by omega⟩ (fun _ => ?_) (fun _ => ?_) <;> try (exfalso; omega)) | (refine wq_ifgt ⟨by omega, by omega⟩ (fun _ => ?_) (fun _ => ?_) <;> try (exfalso; omega)) | (refine wq_ifle ⟨by omega, by omega⟩ (fun _ => ?_) (fun _ => ?_) <;> try (exfalso; omega)) | refine wq_r rfl rfl rfl rfl rfl rfl ?_)
        exact ⟨Or.inr ⟨fun z => hfit z.2, rfl⟩, rfl⟩
theorem c_Gr_canUnroll (h : Gm M g N p X mn lt dp us W) (hX : WFX N X) (hm : WFm N mn) {r : Nat} (hr : r < N) : Wm 33 [.ref g, .int (I r)] M (fun v M' => ((canU N X mn r ∧ v = some (.int (I 1))) ∨ (¬ canU N X mn r ∧ v = some (.int (I 0)))) ∧ M' = M) := by
  have hN := h.le
  have hg1 := h.obj
  have hru := c_Gr_ruleRow (k := r) ⟨by omega, by omega⟩ h
  rw [if_pos (by omega)] at hru
  rw [show ((r : Int)).toNat = r by omega] at hru
  refine wm_in (lv := _) rfl rfl rfl ?_
  repeat (refine wf rfl ?_; first | refine wq_iadd ?_ | refine wq_isub ?_ | refine wq_imul ?_ | refine wq_iinc rfl ?_ | refine wq_goto ?_ | refine wq_k rfl ?_ | refine wq_b rfl rfl ?_ | refine wq_getf (by assumption) rfl ?_ | refine wq_alen (by assumption) rfl ?_)
  refine wf rfl (wq_cv rfl rfl rfl hg1 (hru.mono ?_))
  rintro v M ⟨rfl, rfl⟩
  repeat' (first | (refine Wp.sub (lp_gcanU h hX hm hr 100 _ ?_) ⟨rfl, rfl, rfl, rfl, trivial⟩ rfl) | (refine wf rfl ?_; first | refine wq_iadd ?_ | refine wq_isub ?_ | refine wq_imul ?_ | refine wq_iinc rfl ?_ | refine wq_goto ?_ | refine wq_k rfl ?_ | refine wq_b rfl rfl ?_ | refine wq_getf (by assumption) rfl ?_ | refine wq_alen (by assumption) rfl ?_ | fail | (refine wq_eq ⟨by omega, by omega⟩ ⟨by omega, by omega⟩ (fun _ => ?_) (fun _ => ?_) <;> try (exfalso; omega)) | (refine wq_ne ⟨by omega, by omega⟩ ⟨by omega, by omega⟩ (fun _ => ?_) (fun _ => ?_) <;> try (exfalso; omega)) | (refine wq_lt ⟨by omega, by omega⟩ ⟨by omega, by omega⟩ (fun _ => ?_) (fun _ => ?_) <;> try (exfalso; omega)) | (refine wq_ge ⟨by omega, by omega⟩ ⟨by omega, by omega⟩ (fun _ => ?_) (fun _ => ?_) <;> try (exfalso; omega)) | (refine wq_gt ⟨by omega, by omega⟩ ⟨by omega, by omega⟩ (fun _ => ?_) (fun _ => ?_) <;> try (exfalso; omega)) | (refine wq_le ⟨by omega, by omega⟩ ⟨by omega, by omega⟩ (fun _ => ?_) (fun _ => ?_) <;> try (exfalso; omega)) | (refine wq_ifeq ⟨by omega, by omega⟩ (fun _ => ?_) (fun _ => ?_) <;> try (exfalso; omega)) | (refine wq_ifne ⟨by omega, by omega⟩ (fun _ => ?_) (fun _ => ?_) <;> try (exfalso; omega)) | (refine wq_iflt ⟨by omega, by omega⟩ (fun _ => ?_) (fun _ => ?_) <;> try (exfalso; omega)) | (refine wq_ifge ⟨by omega, by omega⟩ (fun _ => ?_) (fun _ => ?_) <;> try (exfalso; omega)) | (refine wq_ifgt ⟨by omega, by omega⟩ (fun _ => ?_) (fun _ => ?_) <;> try (exfalso; omega)) | (refine wq_ifle ⟨by omega, by omega⟩ (fun _ => ?_) (fun _ => ?_) <;> try (exfalso; omega)) | refine wq_r rfl rfl rfl rfl rfl rfl ?_))
  exact ⟨by omega, by omega, by omega, fun j h1 h2 => by omega⟩
/-- a grammar's cells but the row of its rows -/
def Gb (M : PM) (g N : Nat) (p : Nat → Nat) (X : Nat → List Int) (mn : List Int) (lt dp us : Nat → Int) (W : Int) : Prop :=
  M[g]? = some (.inr (0, [.ref (g + 1), .ref (g + 2), .int (I N), .ref (g + 4), .ref (g + 5), .ref (g + 6), .int (I W)])) ∧
  Rw M (g + 2) mn ∧ M[g + 4]? = some (aJ 26 lt) ∧ M[g + 5]? = some (aJ 26 dp) ∧ M[g + 6]? = some (aJ 26 us) ∧
  (∀ k, k < 26 → Rw M (p k) (X k)) ∧ (∀ k, k < 26 → ∃ j, j < 26 ∧ p k = g + 7 + 2 * j) ∧ (∀ j k, j < 26 → k < 26 → p j = p k → j = k) ∧ N ≤ 26
theorem Gm.gb (h : Gm M g N p X mn lt dp us W) : Gb M g N p X mn lt dp us W := ⟨h.1, h.2.2⟩
theorem Gb.newRow {M1 : PM} {k : Nat} {xs : List Int} (h : Gb M g N p X mn lt dp us W) (hk : k < 26) (f : Fr (fun q => q = p k ∨ q = p k + 1) M M1) (hr : Rw M1 (p k) xs) : Gb M1 g N p (updF X k xs) mn lt dp us W := by
  obtain ⟨q1, q4, q5, q6, q7, q8, q9, q10, q11⟩ := h
  obtain ⟨a, ha, ea⟩ := q9 k hk
  refine ⟨f.at (by omega) q1, q4.fr f (by omega) (by omega), f.at (by omega) q5, f.at (by omega) q6, f.at (by omega) q7, fun j hj => ?_, q9, q10, q11⟩
  by_cases he : j = k
  · subst he
    rw [updF_at]
    exact hr
  · rw [updF_ne _ _ he]
    obtain ⟨b, hb, eb⟩ := q9 j hj
    have : p j ≠ p k := fun z => he (q10 j k hj hk z)
    exact (q8 j hj).fr f (by omega) (by omega)
theorem Gb.newMain {M1 : PM} {ys : List Int} (h : Gb M g N p X mn lt dp us W) (f : Fr (fun q => q = g + 2 ∨ q = g + 3) M M1) (hr : Rw M1 (g + 2) ys) : Gb M1 g N p X ys lt dp us W := by
  obtain ⟨q1, q4, q5, q6, q7, q8, q9, q10, q11⟩ := h
  refine ⟨f.at (by omega) q1, hr, f.at (by omega) q5, f.at (by omega) q6, f.at (by omega) q7, fun j hj => ?_, q9, q10, q11⟩
  obtain ⟨b, hb, eb⟩ := q9 j hj
  exact (q8 j hj).fr f (by omega) (by omega)
theorem Gb.arr {M1 : PM} (h : Gb M g N p X mn lt dp us W) (f : Fr (fun q => q = g + 1) M M1) : Gb M1 g N p X mn lt dp us W := by
  obtain ⟨q1, q4, q5, q6, q7, q8, q9, q10, q11⟩ := h
  refine ⟨f.at (by omega) q1, q4.fr f (by omega) (by omega), f.at (by omega) q5, f.at (by omega) q6, f.at (by omega) q7, fun j hj => ?_, q9, q10, q11⟩
  obtain ⟨b, hb, eb⟩ := q9 j hj
  exact (q8 j hj).fr f (by omega) (by omega)
theorem Gb.objs {M1 : PM} {N' : Nat} (h : Gb M g N p X mn lt dp us W) (f : Fr (fun q => q = g) M M1) (h0 : M1[g]? = some (.inr (0, [.ref (g + 1), .ref (g + 2), .int (I N'), .ref (g + 4), .ref (g + 5), .ref (g + 6), .int (I W)]))) (hN : N' ≤ 26) : Gb M1 g N' p X mn lt dp us W := by
  obtain ⟨q1, q4, q5, q6, q7, q8, q9, q10, q11⟩ := h
  refine ⟨h0, q4.fr f (by omega) (by omega), f.at (by omega) q5, f.at (by omega) q6, f.at (by omega) q7, fun j hj => ?_, q9, q10, hN⟩
  obtain ⟨b, hb, eb⟩ := q9 j hj
  exact (q8 j hj).fr f (by omega) (by omega)
/-- where the rows stand behind an unrolling of r of N -/
def sgU (N r j : Nat) : Nat := if j < r then j else if j + 1 < N then j + 1 else if j + 1 = N then r else j
theorem sgU_lt {N r j : Nat} (hr : r < N) (hN : N ≤ 26) (hj : j < 26) : sgU N r j < 26 := by
  unfold sgU
  split
  · exact hj
  · split
    · omega
    · split <;> omega
theorem sgU_inj {N r j k : Nat} (hr : r < N) (h : sgU N r j = sgU N r k) : j = k := by
  unfold sgU at h
  (repeat' split at h) <;> omega
theorem lp_unroll (hX : WFX N X) (hm : WFm N mn) (hne : ∀ k, k < N → 1 ≤ (X k).length) {r : Nat} (hr : r < N) (hcu : canU N X mn r) (n : Nat) : ∀ (k : Int) (M1 : PM), ((r : Int) < k ∧ k ≤ N ∧ N - k < n ∧ Fr (inG g) M M1 ∧ ∃ X1 f, Gb M1 g N p X1 mn lt dp us W ∧ M1[g + 1]? = some (aQ 2 26 f) ∧ (∀ j, j < 26 → f j = some (if r ≤ j ∧ j + 1 < k.toNat then p (j + 1) else p j)) ∧ ∀ j, j < N → X1 j = if r < j ∧ j < k.toNat then unr (8 + (r : Int)) (X r) (X j) else X j) →
    Wp k_X0_unrollRule (20, [(0, .ref g), (1, .int (I r)), (2, .ref (p r)), (3, .int (I k))], [], M1) (fun v M' => v = none ∧ Fr (inG g) M M' ∧ ∃ X2, (∀ j, j + 1 < N → X2 j = if j < r then X j else unr (8 + (r : Int)) (X r) (X (j + 1))) ∧ WFX (N - 1) X2 ∧ WFm (N - 1) (unr (8 + (r : Int)) (X r) mn) ∧ ∃ lt' dp' us' W', Gm M' g (N - 1) (fun j => p (sgU N r j)) X2 (unr (8 + (r : Int)) (X r) mn) lt' dp' us' W' ∧ Ms (N - 1) X2 (unr (8 + (r : Int)) (X r) mn) lt' dp' us' W') := by
  induction n with
  | zero => intro k M1 hi; exfalso; omega
  | succ n ih =>
    intro k M1 hi
    obtain ⟨i1, i2, i3, i4, X1, f, hg, hf1, hf2, hx1⟩ := hi
    obtain ⟨o1, hmn, hl1, hd1, hu1, hrows, hpos, hinj, hN⟩ := id hg
    have exr : X1 r = X r := by rw [hx1 r hr, if_neg (by omega)]
    have hrr := hrows r (by omega)
    rw [exr] at hrr
    obtain ⟨jr, hjr, ejr⟩ := hpos r (by omega)
    by_cases hk : k < N
    · have hkk : k.toNat < 26 := by omega
      obtain ⟨jk, hjk, ejk⟩ := hpos k.toNat hkk
      have hnpk : p k.toNat ≠ p r := fun z => by have := hinj _ _ hkk (by omega) z; omega
      have exk : X1 k.toNat = X k.toNat := by rw [hx1 _ (by omega), if_neg (by omega)]
      have hrk := hrows k.toNat hkk
      rw [exk] at hrk
      have hfit := hcu.1 k.toNat (by omega) (by omega)
      have hul := unr_length (8 + (r : Int)) (X r) (X k.toNat)
      unfold fitU at hfit
      have hus := c_Row_unrollSymbol (sym := 8 + (r : Int)) (by omega) (by omega) (hne r hr) (by omega) (hX.sb (k := k.toNat) (by omega) hN) hrk hrr
      obtain ⟨gr, h1, h2, h3, h4⟩ := id hrk
      have hfk : f k.toNat = some (p k.toNat) := by rw [hf2 _ hkk, if_neg (by omega)]
      repeat (refine wf rfl ?_; first | refine wq_iadd ?_ | refine wq_isub ?_ | refine wq_imul ?_ | refine wq_iinc rfl ?_ | refine wq_goto ?_ | refine wq_k rfl ?_ | refine wq_b rfl rfl ?_ | refine wq_getf (by assumption) rfl ?_ | refine wq_alen (by assumption) rfl ?_)
      refine wf rfl (wq_ge ⟨by omega, by omega⟩ ⟨by omega, by omega⟩ (fun c1 => by exfalso; omega) (fun c1 => ?_))
      repeat (refine wf rfl ?_; first | refine wq_iadd ?_ | refine wq_isub ?_ | refine wq_imul ?_ | refine wq_iinc rfl ?_ | refine wq_goto ?_ | refine wq_k rfl ?_ | refine wq_b rfl rfl ?_ | refine wq_getf (by assumption) rfl ?_ | refine wq_alen (by assumption) rfl ?_)
      refine wf rfl (wq_ge ⟨by omega, by omega⟩ ⟨by omega, by omega⟩ (fun c1 => by exfalso; omega) (fun c1 => ?_))
      repeat (refine wf rfl ?_; first | refine wq_iadd ?_ | refine wq_isub ?_ | refine wq_imul ?_ | refine wq_iinc rfl ?_ | refine wq_goto ?_ | refine wq_k rfl ?_ | refine wq_b rfl rfl ?_ | refine wq_getf (by assumption) rfl ?_ | refine wq_alen (by assumption) rfl ?_)
      refine wf rfl (wq_aald hf1 rfl ⟨by omega, by omega⟩ (by omega) (by omega) hfk ?_)
      repeat (refine wf rfl ?_; first | refine wq_iadd ?_ | refine wq_isub ?_ | refine wq_imul ?_ | refine wq_iinc rfl ?_ | refine wq_goto ?_ | refine wq_k rfl ?_ | refine wq_b rfl rfl ?_ | refine wq_getf (by assumption) rfl ?_ | refine wq_alen (by assumption) rfl ?_)
      refine wf rfl (wq_cv rfl rfl rfl h1 (hus.mono ?_))
      rintro v M2 ⟨rfl, hr2, f2⟩
      have hg2 := hg.newRow hkk f2 hr2
      have hf12 := f2.at (by omega) hf1
      have o2 := hg2.1
      obtain ⟨gr2, y1, y2, y3, y4⟩ := id hr2
      repeat (refine wf rfl ?_; first | refine wq_iadd ?_ | refine wq_isub ?_ | refine wq_imul ?_ | refine wq_iinc rfl ?_ | refine wq_goto ?_ | refine wq_k rfl ?_ | refine wq_b rfl rfl ?_ | refine wq_getf (by assumption) rfl ?_ | refine wq_alen (by assumption) rfl ?_)
      refine wf rfl (wq_aald hf12 rfl ⟨by omega, by omega⟩ (by omega) (by omega) hfk ?_)
      refine wf rfl (wq_aast hf12 y1 rfl ⟨by omega, by omega⟩ (by omega) (by omega) (fun M3 e3 f3 => ?_))
      have hg3 := hg2.arr f3
      repeat' (first | (refine Wp.sub (ih _ _ ?_) ⟨rfl, rfl, rfl, rfl, trivial⟩ rfl) | (refine wf rfl ?_; first | refine wq_iadd ?_ | refine wq_isub ?_ | refine wq_imul ?_ | refine wq_iinc rfl ?_ | refine wq_goto ?_ | refine wq_k rfl ?_ | refine wq_b rfl rfl ?_ | refine wq_getf (by assumption) rfl ?_ | refine wq_alen (by assumption) rfl ?_ | fail | (refine wq_eq ⟨by omega, by omega⟩ ⟨by omega, by omega⟩ (fun _ => ?_) (fun _ => ?_) <;> try (exfalso; omega)) | (refine wq_ne ⟨by omega, by omega⟩ ⟨by omega, by omega⟩ (fun _ => ?_) (fun _ => ?_) <;> try (exfalso; omega)) | (refine wq_lt ⟨by omega, by omega⟩ ⟨by omega, by omega⟩ (fun _ => ?_) (fun _ => ?_) <;> try (exfalso; omega)) | (refine wq_ge ⟨by omega, by omega⟩ ⟨by omega, by omega⟩ (fun _ => ?_) (fun _ => ?_) <;> try (exfalso; omega)) | (refine wq_gt ⟨by omega, by omega⟩ ⟨by omega, by omega⟩ (fun _ => ?_) (fun _ => ?_) <;> try (exfalso; omega)) | (refine wq_le ⟨by omega, by omega⟩ ⟨by omega, by omega⟩ (fun _ => ?_) (fun _ => ?_) <;> try (exfalso; omega)) | (refine wq_ifeq ⟨by omega, by omega⟩ (fun _ => ?_) (fun _ => ?_) <;> try (exfalso; omega)) | (refine wq_ifne ⟨by omega, by omega⟩ (fun _ => ?_) (fun _ => ?_) <;> try (exfalso; omega)) | (refine wq_iflt ⟨by omega, by omega⟩ (fun _ => ?_) (fun _ => ?_) <;> try (exfalso; omega)) | (refine wq_ifge ⟨by omega, by omega⟩ (fun _ => ?_) (fun _ => ?_) <;> try (exfalso; omega)) | (refine wq_ifgt ⟨by omega, by omega⟩ (fun _ => ?_) (fun _ => ?_) <;> try (exfalso; omega)) | (refine wq_ifle ⟨by omega, by omega⟩ (fun _ => ?_) (fun _ => ?_) <;> try (exfalso; omega)) | refine wq_r rfl rfl rfl rfl rfl rfl ?_))
      refine ⟨by omega, by omega, by omega, (i4.tr (f2.mono (fun q hq => by unfold inG; omega))).tr (f3.mono (fun q hq => by unfold inG; omega)), _, _, hg3, e3, fun j hj => ?_, fun j hj => ?_⟩
      · unfold va_up
        by_cases he : j = (k - 1).toNat
        · rw [if_pos he, if_pos (by omega)]
          congr 2
          omega
        · rw [if_neg he, hf2 j hj]
          by_cases hq : r ≤ j ∧ j + 1 < k.toNat
          · rw [if_pos hq, if_pos (by omega)]
          · rw [if_neg hq, if_neg (by omega)]
      · by_cases he : j = k.toNat
        · subst he
          rw [updF_at, if_pos (by omega)]
        · rw [updF_ne _ _ he, hx1 j hj]
          by_cases hq : r < j ∧ j < k.toNat
          · rw [if_pos hq, if_pos (by omega)]
          · rw [if_neg hq, if_neg (by omega)]
    · have ek : k.toNat = N := by omega
      rw [ek] at hf2 hx1
      have hfit := hcu.2
      have hul := unr_length (8 + (r : Int)) (X r) mn
      unfold fitU at hfit
      have hus := c_Row_unrollSymbol (sym := 8 + (r : Int)) (by omega) (by omega) (hne r hr) (by omega) (hm.sb hN) hmn hrr
      obtain ⟨gr, h1, h2, h3, h4⟩ := id hmn
      repeat (refine wf rfl ?_; first | refine wq_iadd ?_ | refine wq_isub ?_ | refine wq_imul ?_ | refine wq_iinc rfl ?_ | refine wq_goto ?_ | refine wq_k rfl ?_ | refine wq_b rfl rfl ?_ | refine wq_getf (by assumption) rfl ?_ | refine wq_alen (by assumption) rfl ?_)
      refine wf rfl (wq_ge ⟨by omega, by omega⟩ ⟨by omega, by omega⟩ (fun c1 => ?_) (fun c1 => by exfalso; omega))
      repeat (refine wf rfl ?_; first | refine wq_iadd ?_ | refine wq_isub ?_ | refine wq_imul ?_ | refine wq_iinc rfl ?_ | refine wq_goto ?_ | refine wq_k rfl ?_ | refine wq_b rfl rfl ?_ | refine wq_getf (by assumption) rfl ?_ | refine wq_alen (by assumption) rfl ?_)
      refine wf rfl (wq_cv rfl rfl rfl h1 (hus.mono ?_))
      rintro v M2 ⟨rfl, hr2, f2⟩
      have hg2 := hg.newMain f2 hr2
      have hf12 := f2.at (by omega) hf1
      have o2 := hg2.1
      repeat (refine wf rfl ?_; first | refine wq_iadd ?_ | refine wq_isub ?_ | refine wq_imul ?_ | refine wq_iinc rfl ?_ | refine wq_goto ?_ | refine wq_k rfl ?_ | refine wq_b rfl rfl ?_ | refine wq_getf (by assumption) rfl ?_ | refine wq_alen (by assumption) rfl ?_)
      refine wf rfl (wq_putf o2 rfl (fun M3 e3 f3 => ?_))
      have e3 : M3[g]? = some (.inr (0, [.ref (g + 1), .ref (g + 2), .int (I (N - 1 : Nat)), .ref (g + 4), .ref (g + 5), .ref (g + 6), .int (I W)])) := by
        rw [show ((N - 1 : Nat) : Int) = (N : Int) - 1 by omega]; exact e3
      have hg3 := hg2.objs f3 e3 (by omega)
      have hf13 := f3.at (by omega) hf12
      obtain ⟨grr, y1, y2, y3, y4⟩ := hg3.2.2.2.2.2.1 r (by omega)
      repeat (refine wf rfl ?_; first | refine wq_iadd ?_ | refine wq_isub ?_ | refine wq_imul ?_ | refine wq_iinc rfl ?_ | refine wq_goto ?_ | refine wq_k rfl ?_ | refine wq_b rfl rfl ?_ | refine wq_getf (by assumption) rfl ?_ | refine wq_alen (by assumption) rfl ?_)
      refine wf rfl (wq_aast hf13 y1 rfl ⟨by omega, by omega⟩ (by omega) (by omega) (fun M4 e4 f4 => ?_))
      have hg4 := hg3.arr f4
      have frA : Fr (inG g) M M4 := ((i4.tr (f2.mono (fun q hq => by unfold inG; omega))).tr (f3.mono (fun q hq => by unfold inG; omega))).tr (f4.mono (fun q hq => by unfold inG; omega))
      have hX2 : ∀ j, j + 1 < N → X1 (sgU N r j) = if j < r then X j else unr (8 + (r : Int)) (X r) (X (j + 1)) := by
        intro j hj
        unfold sgU
        by_cases hq : j < r
        · rw [if_pos hq, if_pos hq, hx1 j (by omega), if_neg (by omega)]
        · rw [if_neg hq, if_neg hq, if_pos hj, hx1 _ hj, if_pos (by omega)]
      have hunr : ∀ (xs : List Int) (B : Nat), r < B → (∀ s ∈ xs, 0 ≤ s ∧ s < 8 + (B : Int)) → ∀ s ∈ unr (8 + (r : Int)) (X r) xs, 0 ≤ s ∧ s < 8 + ((B - 1 : Nat) : Int) := by
        intro xs B hB hxs s hs
        unfold unr at hs
        obtain ⟨x, hx, hs⟩ := List.mem_flatMap.mp hs
        have h1 := hxs x hx
        unfold unr1 at hs
        split at hs
        · have := hX r hr s hs
          omega
        · split at hs
          · have := List.mem_singleton.mp hs
            omega
          · have := List.mem_singleton.mp hs
            omega
      have hwx : WFX (N - 1) (fun j => X1 (sgU N r j)) := by
        intro j hj s hs
        dsimp only at hs
        rw [hX2 j (by omega)] at hs
        split at hs
        · have := hX j (by omega) s hs
          omega
        · have := hunr (X (j + 1)) (j + 1) (by omega) (fun s hs => by have := hX (j + 1) (by omega) s hs; omega) s hs
          omega
      have hwm : WFm (N - 1) (unr (8 + (r : Int)) (X r) mn) := hunr mn N hr hm
      have hG : Gm M4 g (N - 1) (fun j => p (sgU N r j)) (fun j => X1 (sgU N r j)) (unr (8 + (r : Int)) (X r) mn) lt dp us W := by
        obtain ⟨z1, z2, z3, z4, z5, z6, z7, z8, z9⟩ := hg4
        refine ⟨z1, ⟨_, e4, fun j hj => ?_⟩, z2, z3, z4, z5, fun j hj => z6 _ (sgU_lt hr hN hj), fun j hj => z7 _ (sgU_lt hr hN hj), fun j k hj hk e => sgU_inj hr (z8 _ _ (sgU_lt hr hN hj) (sgU_lt hr hN hk) e), by omega⟩
        unfold va_up
        by_cases he : j = (((N - 1 : Nat) : Int)).toNat
        · rw [if_pos he]
          show some (p r) = some (p (sgU N r j))
          unfold sgU
          rw [if_neg (by omega), if_neg (by omega), if_pos (by omega)]
        · rw [if_neg he, hf2 j hj]
          show some (if r ≤ j ∧ j + 1 < N then p (j + 1) else p j) = some (p (sgU N r j))
          unfold sgU
          by_cases hq : r ≤ j ∧ j + 1 < N
          · rw [if_pos hq, if_neg (by omega), if_pos hq.2]
          · rw [if_neg hq]
            by_cases hq2 : j < r
            · rw [if_pos hq2]
            · rw [if_neg hq2, if_neg (by omega), if_neg (by omega)]
      have hme := c_Gr_measure hG hwx hwm
      have o4 := hG.obj
      repeat (refine wf rfl ?_; first | refine wq_iadd ?_ | refine wq_isub ?_ | refine wq_imul ?_ | refine wq_iinc rfl ?_ | refine wq_goto ?_ | refine wq_k rfl ?_ | refine wq_b rfl rfl ?_ | refine wq_getf (by assumption) rfl ?_ | refine wq_alen (by assumption) rfl ?_)
      refine wf rfl (wq_cv rfl rfl rfl o4 (hme.mono ?_))
      rintro v M5 ⟨rfl, f5, hq⟩
      repeat' (refine wf rfl ?_; first | refine wq_iadd ?_ | refine wq_isub ?_ | refine wq_imul ?_ | refine wq_iinc rfl ?_ | refine wq_goto ?_ | refine wq_k rfl ?_ | refine wq_b rfl rfl ?_ | refine wq_getf (by assumption) rfl ?_ | refine wq_alen (by assumption) rfl ?_ | (refine wq_eq ⟨by omega, by omega⟩ ⟨by omega, by omega⟩ (fun _ => ?_) (fun _ => ?_) <;> try (exfalso; omega)) | (refine wq_ne ⟨by omega, by omega⟩ ⟨by omega, by omega⟩ (fun _ => ?_) (fun _ => ?_) <;> try (exfalso; omega)) | (refine wq_lt ⟨by omega, by omega⟩ ⟨by omega, by omega⟩ (fun _ => ?_) (fun _ => ?_) <;> try (exfalso; omega)) | (refine wq_ge ⟨by omega, by omega⟩ ⟨by omega, by omega⟩ (fun _ => ?_) (fun _ => ?_) <;> try (exfalso; omega)) | (refine wq_gt ⟨by omega, by omega⟩ ⟨by omega, by omega⟩ (fun _ => ?_) (fun _ => ?_) <;> try (exfalso; omega)) | (refine wq_le ⟨by omega, by omega⟩ ⟨by omega, by omega⟩ (fun _ => ?_) (fun _ => ?_) <;> try (exfalso; omega)) | (refine wq_ifeq ⟨by omega, by omega⟩ (fun _ => ?_) (fun _ => ?_) <;> try (exfalso; omega)) | (refine wq_ifne ⟨by omega, by omega⟩ (fun _ => ?_) (fun _ => ?_) <;> try (exfalso; omega)) | (refine wq_iflt ⟨by omega, by omega⟩ (fun _ => ?_) (fun _ => ?_) <;> try (exfalso; omega)) | (refine wq_ifge ⟨by omega, by omega⟩ (fun _ => ?_) (fun _ => ?_) <;> try (exfalso; omega)) | (refine wq_ifgt ⟨by omega, by omega⟩ (fun _ => ?_) (fun _ => ?_) <;> try (exfalso; omega)) | (refine wq_ifle ⟨by omega, by omega⟩ (fun _ => ?_) (fun _ => ?_) <;> try (exfalso; omega)) | refine wq_r rfl rfl rfl rfl rfl rfl ?_)
      exact ⟨rfl, frA.tr (f5.mono (fun q hq => by unfold inG; omega)), _, hX2, hwx, hwm, hq⟩
theorem c_Gr_unrollRule (h : Gm M g N p X mn lt dp us W) (hX : WFX N X) (hm : WFm N mn) (hne : ∀ k, k < N → 1 ≤ (X k).length) {r : Nat} (hr : r < N) (hcu : canU N X mn r) : Wm 34 [.ref g, .int (I r)] M (fun v M' => v = none ∧ Fr (inG g) M M' ∧ ∃ X2, (∀ j, j + 1 < N → X2 j = if j < r then X j else unr (8 + (r : Int)) (X r) (X (j + 1))) ∧ WFX (N - 1) X2 ∧ WFm (N - 1) (unr (8 + (r : Int)) (X r) mn) ∧ ∃ lt' dp' us' W', Gm M' g (N - 1) (fun j => p (sgU N r j)) X2 (unr (8 + (r : Int)) (X r) mn) lt' dp' us' W' ∧ Ms (N - 1) X2 (unr (8 + (r : Int)) (X r) mn) lt' dp' us' W') := by
  have hN := h.le
  have hg1 := h.obj
  have hhr := c_Gr_hasRule (k := r) ⟨by omega, by omega⟩ h
  rw [if_pos (by omega)] at hhr
  obtain ⟨f, hf1, hf2⟩ := h.2.1
  refine wm_in (lv := _) rfl rfl rfl ?_
  repeat (refine wf rfl ?_; first | refine wq_iadd ?_ | refine wq_isub ?_ | refine wq_imul ?_ | refine wq_iinc rfl ?_ | refine wq_goto ?_ | refine wq_k rfl ?_ | refine wq_b rfl rfl ?_ | refine wq_getf (by assumption) rfl ?_ | refine wq_alen (by assumption) rfl ?_)
  refine wf rfl (wq_cv rfl rfl rfl hg1 (hhr.mono ?_))
  rintro v M ⟨rfl, rfl⟩
  refine wf rfl (wq_ifne ⟨by omega, by omega⟩ (fun c2 => ?_) (fun c2 => by exfalso; omega))
  repeat (refine wf rfl ?_; first | refine wq_iadd ?_ | refine wq_isub ?_ | refine wq_imul ?_ | refine wq_iinc rfl ?_ | refine wq_goto ?_ | refine wq_k rfl ?_ | refine wq_b rfl rfl ?_ | refine wq_getf (by assumption) rfl ?_ | refine wq_alen (by assumption) rfl ?_)
  refine wf rfl (wq_aald hf1 rfl ⟨by omega, by omega⟩ (by omega) (by omega) (hf2 r (by omega)) ?_)
  repeat' (first | (refine Wp.sub (lp_unroll (lt := lt) (dp := dp) (us := us) (W := W) hX hm hne hr hcu 100 _ _ ?_) ⟨rfl, rfl, rfl, rfl, trivial⟩ rfl) | (refine wf rfl ?_; first | refine wq_iadd ?_ | refine wq_isub ?_ | refine wq_imul ?_ | refine wq_iinc rfl ?_ | refine wq_goto ?_ | refine wq_k rfl ?_ | refine wq_b rfl rfl ?_ | refine wq_getf (by assumption) rfl ?_ | refine wq_alen (by assumption) rfl ?_ | fail | (refine wq_eq ⟨by omega, by omega⟩ ⟨by omega, by omega⟩ (fun _ => ?_) (fun _ => ?_) <;> try (exfalso; omega)) | (refine wq_ne ⟨by omega, by omega⟩ ⟨by omega, by omega⟩ (fun _ => ?_) (fun _ => ?_) <;> try (exfalso; omega)) | (refine wq_lt ⟨by omega, by omega⟩ ⟨by omega, by omega⟩ (fun _ => ?_) (fun _ => ?_) <;> try (exfalso; omega)) | (refine wq_ge ⟨by omega, by omega⟩ ⟨by omega, by omega⟩ (fun _ => ?_) (fun _ => ?_) <;> try (exfalso; omega)) | (refine wq_gt ⟨by omega, by omega⟩ ⟨by omega, by omega⟩ (fun _ => ?_) (fun _ => ?_) <;> try (exfalso; omega)) | (refine wq_le ⟨by omega, by omega⟩ ⟨by omega, by omega⟩ (fun _ => ?_) (fun _ => ?_) <;> try (exfalso; omega)) | (refine wq_ifeq ⟨by omega, by omega⟩ (fun _ => ?_) (fun _ => ?_) <;> try (exfalso; omega)) | (refine wq_ifne ⟨by omega, by omega⟩ (fun _ => ?_) (fun _ => ?_) <;> try (exfalso; omega)) | (refine wq_iflt ⟨by omega, by omega⟩ (fun _ => ?_) (fun _ => ?_) <;> try (exfalso; omega)) | (refine wq_ifge ⟨by omega, by omega⟩ (fun _ => ?_) (fun _ => ?_) <;> try (exfalso; omega)) | (refine wq_ifgt ⟨by omega, by omega⟩ (fun _ => ?_) (fun _ => ?_) <;> try (exfalso; omega)) | (refine wq_ifle ⟨by omega, by omega⟩ (fun _ => ?_) (fun _ => ?_) <;> try (exfalso; omega)) | refine wq_r rfl rfl rfl rfl rfl rfl ?_))
  exact ⟨by omega, by omega, by omega, Fr.rf, X, f, h.gb, hf1, fun j hj => by rw [if_neg (by omega)]; exact hf2 j hj, fun j hj => by rw [if_neg (by omega)]⟩
end GR8
end
section
/-! Grammars as lists: the rules' rows, the main row. -/
abbrev GS : Type := List (List Int) × List Int
def xof (R : List (List Int)) (k : Nat) : List Int := R.getD k []
def usT (G : GS) (j : Nat) : Int := usS (xof G.1) j G.1.length + (cntE (8 + (j : Int)) G.2 : Int)
def fitB (s : Int) (fl xs : List Int) : Bool := decide ((xs.length : Int) + (cntE s xs : Int) * ((fl.length : Int) - 1) ≤ 80)
def canB (G : GS) (r : Nat) : Bool := (List.range G.1.length).all (fun k => decide (k ≤ r) || fitB (8 + (r : Int)) (xof G.1 r) (xof G.1 k)) && fitB (8 + (r : Int)) (xof G.1 r) G.2
def seldB (G : GS) (r : Nat) : Bool := decide (usT G r < 2) && canB G r
def nextP (G : GS) : Option Nat := (List.range G.1.length).find? (seldB G)
def unrG (G : GS) (r : Nat) : GS := (G.1.take r ++ (G.1.drop (r + 1)).map (unr (8 + (r : Int)) (xof G.1 r)), unr (8 + (r : Int)) (xof G.1 r) G.2)
def prune : Nat → GS → GS × Nat
  | 0, G => (G, 0)
  | n + 1, G => match nextP G with
    | none => (G, 0)
    | some r => ((prune n (unrG G r)).1, (prune n (unrG G r)).2 + 1)
def WFG (G : GS) : Prop := WFX G.1.length (xof G.1) ∧ WFm G.1.length G.2 ∧ ∀ k, k < G.1.length → 1 ≤ (xof G.1 k).length
theorem canB_iff {G : GS} {r : Nat} : canB G r = true ↔ canU G.1.length (xof G.1) G.2 r := by
  unfold canB canU fitB fitU
  simp only [Bool.and_eq_true, List.all_eq_true, List.mem_range, Bool.or_eq_true, decide_eq_true_eq]
  constructor
  · rintro ⟨h1, h2⟩
    exact ⟨fun k q1 q2 => (h1 k q2).resolve_left (by omega), h2⟩
  · rintro ⟨h1, h2⟩
    refine ⟨fun k q => ?_, h2⟩
    by_cases hk : k ≤ r
    · exact Or.inl hk
    · exact Or.inr (h1 k (by omega) q)
theorem usS_congr {X X' : Nat → List Int} (j : Nat) : ∀ {k : Nat}, (∀ i, i < k → X i = X' i) → usS X j k = usS X' j k
  | 0, _ => rfl
  | k + 1, h => by rw [usS, usS, usS_congr j (fun i hi => h i (by omega)), h k (by omega)]
theorem usS_bd {X : Nat → List Int} (j : Nat) : ∀ {k : Nat}, (∀ i, i < k → (X i).length ≤ 80) → 0 ≤ usS X j k ∧ usS X j k ≤ 80 * (k : Int)
  | 0, _ => by simp [usS]
  | k + 1, h => by
    have ih := usS_bd (X := X) j (k := k) (fun i hi => h i (by omega))
    have h1 := h k (by omega)
    have h2 := cntE_le (8 + (j : Int)) (X k)
    rw [usS]
    omega
theorem canU_congr {N : Nat} {X X' : Nat → List Int} {mn : List Int} {r : Nat} (hr : r < N) (h : ∀ k, k < N → X k = X' k) : canU N X mn r ↔ canU N X' mn r := by
  unfold canU
  rw [h r hr]
  constructor
  · rintro ⟨h1, h2⟩
    exact ⟨fun k q1 q2 => by rw [← h k q2]; exact h1 k q1 q2, h2⟩
  · rintro ⟨h1, h2⟩
    exact ⟨fun k q1 q2 => by rw [h k q2]; exact h1 k q1 q2, h2⟩
theorem unrG_len {G : GS} {r : Nat} (hr : r < G.1.length) : (unrG G r).1.length = G.1.length - 1 := by
  unfold unrG
  rw [List.length_append, List.length_take, List.length_map, List.length_drop]
  omega
theorem xof_unr {G : GS} {r j : Nat} (hr : r < G.1.length) (hj : j + 1 < G.1.length) : xof (unrG G r).1 j = if j < r then xof G.1 j else unr (8 + (r : Int)) (xof G.1 r) (xof G.1 (j + 1)) := by
  unfold unrG
  dsimp only
  show (G.1.take r ++ (G.1.drop (r + 1)).map (unr (8 + (r : Int)) (xof G.1 r))).getD j [] = if j < r then G.1.getD j [] else unr (8 + (r : Int)) (G.1.getD r []) (G.1.getD (j + 1) [])
  rw [List.getD_eq_getElem?_getD]
  by_cases h : j < r
  · rw [if_pos h, List.getElem?_append_left (by rw [List.length_take]; omega), List.getElem?_take_of_lt h, ← List.getD_eq_getElem?_getD]
  · rw [if_neg h, List.getElem?_append_right (by rw [List.length_take]; omega), List.length_take, List.getElem?_map, List.getElem?_drop, show r + 1 + (j - min r G.1.length) = j + 1 by omega, List.getElem?_eq_getElem hj, List.getD_eq_getElem?_getD, List.getD_eq_getElem?_getD, List.getElem?_eq_getElem hj, List.getElem?_eq_getElem hr]
    have e : xof G.1 r = G.1[r] := by
      unfold xof
      rw [List.getD_eq_getElem?_getD, List.getElem?_eq_getElem hr]
      rfl
    rw [e]
    rfl
/-- a measured grammar of the lists G -/
def GM (M : PM) (g : Nat) (G : GS) : Prop := ∃ p X lt dp us W, Gm M g G.1.length p X G.2 lt dp us W ∧ Ms G.1.length X G.2 lt dp us W ∧ (∀ k, k < G.1.length → X k = xof G.1 k) ∧ WFG G
theorem GM.fr {P : Nat → Prop} {M M' : PM} {g : Nat} {G : GS} (h : GM M g G) (f : Fr P M M') (hP : ∀ q, inG g q → ¬ P q) : GM M' g G := by
  obtain ⟨p, X, lt, dp, us, W, h1, h2, h3, h4⟩ := h
  exact ⟨p, X, lt, dp, us, W, h1.fr f (fun q q1 q2 => hP q ⟨q1, q2⟩), h2, h3, h4⟩
section GR9
variable {M : PM} {g N : Nat} {p : Nat → Nat} {X : Nat → List Int} {mn : List Int} {lt dp us : Nat → Int} {W : Int}
theorem lp_lowest (h : Gm M g N p X mn lt dp us W) (hX : WFX N X) (hm : WFm N mn) (hb : ∀ j, j < N → 0 ≤ us j ∧ us j ≤ 100000) (n : Nat) : ∀ (k : Int), (0 ≤ k ∧ k ≤ N ∧ N - k < n ∧ ∀ j, j < k.toNat → ¬ (us j < 2 ∧ canU N X mn j)) →
    Wp k_X0_lowestSeldomUsed (2, [(0, .ref g), (1, .int (I k))], [], M) (fun v M' => (((∀ j, j < N → ¬ (us j < 2 ∧ canU N X mn j)) ∧ v = some (.int (I (-6)))) ∨ ∃ r, r < N ∧ us r < 2 ∧ canU N X mn r ∧ (∀ j, j < r → ¬ (us j < 2 ∧ canU N X mn j)) ∧ v = some (.int (I (r : Nat)))) ∧ M' = M) := by
  have hN := h.le
  have hg1 := h.obj
  induction n with
  | zero => intro k hi; exfalso; omega
  | succ n ih =>
    intro k hi
    obtain ⟨i1, i2, i3, i4⟩ := hi
    have ekk : ((k.toNat : Nat) : Int) = k := by omega
    by_cases hk : k < N
    · have hbd := hb k.toNat (by omega)
      have hrr := c_Gr_usesOf (k := k) ⟨by omega, by omega⟩ h
      rw [if_pos (by omega)] at hrr
      have hcu := c_Gr_canUnroll h hX hm (r := k.toNat) (by omega)
      rw [ekk] at hcu
      have nx : ¬ (us k.toNat < 2 ∧ canU N X mn k.toNat) → (0 ≤ k + 1 ∧ k + 1 ≤ N ∧ N - (k + 1) < n ∧ ∀ j, j < (k + 1).toNat → ¬ (us j < 2 ∧ canU N X mn j)) := by
        intro hc
        refine ⟨by omega, by omega, by omega, fun j hj => ?_⟩
        by_cases he : j = k.toNat
        · subst he; exact hc
        · exact i4 j (by omega)
      repeat (refine wf rfl ?_; first | refine wq_iadd ?_ | refine wq_isub ?_ | refine wq_imul ?_ | refine wq_iinc rfl ?_ | refine wq_goto ?_ | refine wq_k rfl ?_ | refine wq_b rfl rfl ?_ | refine wq_getf (by assumption) rfl ?_ | refine wq_alen (by assumption) rfl ?_)
      refine wf rfl (wq_ge ⟨by omega, by omega⟩ ⟨by omega, by omega⟩ (fun c1 => by exfalso; omega) (fun c1 => ?_))
      repeat (refine wf rfl ?_; first | refine wq_iadd ?_ | refine wq_isub ?_ | refine wq_imul ?_ | refine wq_iinc rfl ?_ | refine wq_goto ?_ | refine wq_k rfl ?_ | refine wq_b rfl rfl ?_ | refine wq_getf (by assumption) rfl ?_ | refine wq_alen (by assumption) rfl ?_)
      refine wf rfl (wq_cv rfl rfl rfl hg1 (hrr.mono ?_))
      rintro v M ⟨rfl, rfl⟩
      repeat (refine wf rfl ?_; first | refine wq_iadd ?_ | refine wq_isub ?_ | refine wq_imul ?_ | refine wq_iinc rfl ?_ | refine wq_goto ?_ | refine wq_k rfl ?_ | refine wq_b rfl rfl ?_ | refine wq_getf (by assumption) rfl ?_ | refine wq_alen (by assumption) rfl ?_)
      refine wf rfl (wq_ge ⟨by omega, by omega⟩ ⟨by omega, by omega⟩ (fun c2 => ?_) (fun c2 => ?_))
      · repeat' (first | (refine Wp.sub (ih _ ?_) ⟨rfl, rfl, trivial⟩ rfl) | (refine wf rfl ?_; first | refine wq_iadd ?_ | refine wq_isub ?_ | refine wq_imul ?_ | refine wq_iinc rfl ?_ | refine wq_goto ?_ | refine wq_k rfl ?_ | refine wq_b rfl rfl ?_ | refine wq_getf (by assumption) rfl ?_ | refine wq_alen (by assumption) rfl ?_ | fail | (refine wq_eq ⟨by omega, by omega⟩ ⟨by omega, by omega⟩ (fun _ => ?_) (fun _ => ?_) <;> try (exfalso; omega)) | (refine wq_ne ⟨by omega, by omega⟩ ⟨by omega, by omega⟩ (fun _ => ?_) (fun _ => ?_) <;> try (exfalso; omega)) | (refine wq_lt ⟨by omega, by omega⟩ ⟨by omega, by omega⟩ (fun _ => ?_) (fun _ => ?_) <;> try (exfalso; omega)) | (refine wq_ge ⟨by omega, by omega⟩ ⟨by omega, by omega⟩ (fun _ => ?_) (fun _ => ?_) <;> try (exfalso; omega)) | (refine wq_gt ⟨by omega, by omega⟩ ⟨by omega, by omega⟩ (fun _ => ?_) (fun _ => ?_) <;> try (exfalso; omega)) | (refine wq_le ⟨by omega, by omega⟩ ⟨by omega, by omega⟩ (fun _ => ?_) (fun _ => ?_) <;> try (exfalso; omega)) | (refine wq_ifeq ⟨by omega, by omega⟩ (fun _ => ?_) (fun _ => ?_) <;> try (exfalso; omega)) | (refine wq_ifne ⟨by omega, by omega⟩ (fun _ => ?_) (fun _ => ?_) <;> try (exfalso; omega)) | (refine wq_iflt ⟨by omega, by omega⟩ (fun _ => ?_) (fun _ => ?_) <;> try (exfalso; omega)) | (refine wq_ifge ⟨by omega, by omega⟩ (fun _ => ?_) (fun _ => ?_) <;> try (exfalso; omega)) | (refine wq_ifgt ⟨by omega, by omega⟩ (fun _ => ?_) (fun _ => ?_) <;> try (exfalso; omega)) | (refine wq_ifle ⟨by omega, by omega⟩ (fun _ => ?_) (fun _ => ?_) <;> try (exfalso; omega)) | refine wq_r rfl rfl rfl rfl rfl rfl ?_))
        exact nx (fun z => by omega)
      · repeat (refine wf rfl ?_; first | refine wq_iadd ?_ | refine wq_isub ?_ | refine wq_imul ?_ | refine wq_iinc rfl ?_ | refine wq_goto ?_ | refine wq_k rfl ?_ | refine wq_b rfl rfl ?_ | refine wq_getf (by assumption) rfl ?_ | refine wq_alen (by assumption) rfl ?_)
        refine wf rfl (wq_cv rfl rfl rfl hg1 (hcu.mono ?_))
        rintro v M ⟨⟨hc, rfl⟩ | ⟨hc, rfl⟩, rfl⟩
        · refine wf rfl (wq_ifeq ⟨by omega, by omega⟩ (fun c3 => by exfalso; omega) (fun c3 => ?_))
          repeat' (refine wf rfl ?_; first | refine wq_iadd ?_ | refine wq_isub ?_ | refine wq_imul ?_ | refine wq_iinc rfl ?_ | refine wq_goto ?_ | refine wq_k rfl ?_ | refine wq_b rfl rfl ?_ | refine wq_getf (by assumption) rfl ?_ | refine wq_alen (by assumption) rfl ?_ | (refine wq_eq ⟨by omega, by omega⟩ ⟨by omega, by omega⟩ (fun _ => ?_) (fun _ => ?_) <;> try (exfalso; omega)) | (refine wq_ne ⟨by omega, by omega⟩ ⟨by omega, by omega⟩ (fun _ => ?_) (fun _ => ?_) <;> try (exfalso; omega)) | (refine wq_lt ⟨by omega, by omega⟩ ⟨by omega, by omega⟩ (fun _ => ?_) (fun _ => ?_) <;> try (exfalso; omega)) | (refine wq_ge ⟨by omega, by omega⟩ ⟨by omega, by omega⟩ (fun _ => ?_) (fun _ => ?_) <;> try (exfalso; omega)) | (refine wq_gt ⟨by omega, by omega⟩ ⟨by omega, by omega⟩ (fun _ => ?_) (fun _ => ?_) <;> try (exfalso; omega)) | (refine wq_le ⟨by omega, by omega⟩ ⟨by omega, by omega⟩ (fun _ => ?_) (fun _ => ?_) <;> try (exfalso; omega)) | (refine wq_ifeq ⟨by omega, by omega⟩ (fun _ => ?_) (fun _ => ?_) <;> try (exfalso; omega)) | (refine wq_ifne ⟨by omega, by omega⟩ (fun _ => ?_) (fun _ => ?_) <;> try (exfalso; omega)) | (refine wq_iflt ⟨by omega, by omega⟩ (fun _ => ?_) (fun _ => ?_) <;> try (exfalso; omega)) | (refine wq_ifge ⟨by omega, by omega⟩ (fun _ => ?_) (fun _ => ?_) <;> try (exfalso; omega)) | (refine wq_ifgt ⟨by omega, by omega⟩ (fun _ => ?_) (fun _ => ?_) <;> try (exfalso; omega)) | (refine wq_ifle ⟨by omega, by omega⟩ (fun _ => ?_) (fun _ => ?_) <;> try (exfalso; omega)) | refine wq_r rfl rfl rfl rfl rfl rfl ?_)
          exact ⟨Or.inr ⟨k.toNat, by omega, by omega, hc, i4, by rw [ekk]⟩, rfl⟩
        · refine wf rfl (wq_ifeq ⟨by omega, by omega⟩ (fun c3 => ?_) (fun c3 => absurd rfl c3))
          repeat' (first | (refine Wp.sub (ih _ ?_) ⟨rfl, rfl, trivial⟩ rfl) | (refine wf rfl ?_; first | refine wq_iadd ?_ | refine wq_isub ?_ | refine wq_imul ?_ | refine wq_iinc rfl ?_ | refine wq_goto ?_ | refine wq_k rfl ?_ | refine wq_b rfl rfl ?_ | refine wq_getf (by assumption) rfl ?_ | refine wq_alen (by assumption) rfl ?_ | fail | (refine wq_eq ⟨by omega, by omega⟩ ⟨by omega, by omega⟩ (fun _ => ?_) (fun _ => ?_) <;> try (exfalso; omega)) | (refine wq_ne ⟨by omega, by omega⟩ ⟨by omega, by omega⟩ (fun _ => ?_) (fun _ => ?_) <;> try (exfalso; omega)) | (refine wq_lt ⟨by omega, by omega⟩ ⟨by omega, by omega⟩ (fun _ => ?_) (fun _ => ?_) <;> try (exfalso; omega)) | (refine wq_ge ⟨by omega, by omega⟩ ⟨by omega, by omega⟩ (fun _ => ?_) (fun _ => ?_) <;> try (exfalso; omega)) | (refine wq_gt ⟨by omega, by omega⟩ ⟨by omega, by omega⟩ (fun _ => ?_) (fun _ => ?_) <;> try (exfalso; omega)) | (refine wq_le ⟨by omega, by omega⟩ ⟨by omega, by omega⟩ (fun _ => ?_) (fun _ => ?_) <;> try (exfalso; omega)) | (refine wq_ifeq ⟨by omega, by omega⟩ (fun _ => ?_) (fun _ => ?_) <;> try (exfalso; omega)) | (refine wq_ifne ⟨by omega, by omega⟩ (fun _ => ?_) (fun _ => ?_) <;> try (exfalso; omega)) | (refine wq_iflt ⟨by omega, by omega⟩ (fun _ => ?_) (fun _ => ?_) <;> try (exfalso; omega)) | (refine wq_ifge ⟨by omega, by omega⟩ (fun _ => ?_) (fun _ => ?_) <;> try (exfalso; omega)) | (refine wq_ifgt ⟨by omega, by omega⟩ (fun _ => ?_) (fun _ => ?_) <;> try (exfalso; omega)) | (refine wq_ifle ⟨by omega, by omega⟩ (fun _ => ?_) (fun _ => ?_) <;> try (exfalso; omega)) | refine wq_r rfl rfl rfl rfl rfl rfl ?_))
          exact nx (fun z => hc z.2)
    · repeat' (refine wf rfl ?_; first | refine wq_iadd ?_ | refine wq_isub ?_ | refine wq_imul ?_ | refine wq_iinc rfl ?_ | refine wq_goto ?_ | refine wq_k rfl ?_ | refine wq_b rfl rfl ?_ | refine wq_getf (by assumption) rfl ?_ | refine wq_alen (by assumption) rfl ?_ | (refine wq_eq ⟨by omega, by omega⟩ ⟨by omega, by omega⟩ (fun _ => ?_) (fun _ => ?_) <;> try (exfalso; omega)) | (refine wq_ne ⟨by omega, by omega⟩ ⟨by omega, by omega⟩ (fun _ => ?_) (fun _ => ?_) <;> try (exfalso; omega)) | (refine wq_lt ⟨by omega, by omega⟩ ⟨by omega, by omega⟩ (fun _ => ?_) (fun _ => ?_) <;> try (exfalso; omega)) | (refine wq_ge ⟨by omega, by omega⟩ ⟨by omega, by omega⟩ (fun _ => ?_) (fun _ => ?_) <;> try (exfalso; omega)) | (refine wq_gt ⟨by omega, by omega⟩ ⟨by omega, by omega⟩ (fun _ => ?_) (fun _ => ?_) <;> try (exfalso; omega)) | (refine wq_le ⟨by omega, by omega⟩ ⟨by omega, by omega⟩ (fun _ => ?_) (fun _ => ?_) <;> try (exfalso; omega)) | (refine wq_ifeq ⟨by omega, by omega⟩ (fun _ => ?_) (fun _ => ?_) <;> try (exfalso; omega)) | (refine wq_ifne ⟨by omega, by omega⟩ (fun _ => ?_) (fun _ => ?_) <;> try (exfalso; omega)) | (refine wq_iflt ⟨by omega, by omega⟩ (fun _ => ?_) (fun _ => ?_) <;> try (exfalso; omega)) | (refine wq_ifge ⟨by omega, by omega⟩ (fun _ => ?_) (fun _ => ?_) <;> try (exfalso; omega)) | (refine wq_ifgt ⟨by omega, by omega⟩ (fun _ => ?_) (fun _ => ?_) <;> try (exfalso; omega)) | (refine wq_ifle ⟨by omega, by omega⟩ (fun _ => ?_) (fun _ => ?_) <;> try (exfalso; omega)) | refine wq_r rfl rfl rfl rfl rfl rfl ?_)
      exact ⟨Or.inl ⟨fun j hj => i4 j (by omega), rfl⟩, rfl⟩
theorem c_Gr_lowestSeldomUsed (h : Gm M g N p X mn lt dp us W) (hX : WFX N X) (hm : WFm N mn) (hb : ∀ j, j < N → 0 ≤ us j ∧ us j ≤ 100000) : Wm 36 [.ref g] M (fun v M' => (((∀ j, j < N → ¬ (us j < 2 ∧ canU N X mn j)) ∧ v = some (.int (I (-6)))) ∨ ∃ r, r < N ∧ us r < 2 ∧ canU N X mn r ∧ (∀ j, j < r → ¬ (us j < 2 ∧ canU N X mn j)) ∧ v = some (.int (I (r : Nat)))) ∧ M' = M) := by
  have hN := h.le
  refine wm_in (lv := _) rfl rfl rfl ?_
  repeat' (first | (refine Wp.sub (lp_lowest h hX hm hb 100 _ ?_) ⟨rfl, rfl, trivial⟩ rfl) | (refine wf rfl ?_; first | refine wq_iadd ?_ | refine wq_isub ?_ | refine wq_imul ?_ | refine wq_iinc rfl ?_ | refine wq_goto ?_ | refine wq_k rfl ?_ | refine wq_b rfl rfl ?_ | refine wq_getf (by assumption) rfl ?_ | refine wq_alen (by assumption) rfl ?_ | fail | (refine wq_eq ⟨by omega, by omega⟩ ⟨by omega, by omega⟩ (fun _ => ?_) (fun _ => ?_) <;> try (exfalso; omega)) | (refine wq_ne ⟨by omega, by omega⟩ ⟨by omega, by omega⟩ (fun _ => ?_) (fun _ => ?_) <;> try (exfalso; omega)) | (refine wq_lt ⟨by omega, by omega⟩ ⟨by omega, by omega⟩ (fun _ => ?_) (fun _ => ?_) <;> try (exfalso; omega)) | (refine wq_ge ⟨by omega, by omega⟩ ⟨by omega, by omega⟩ (fun _ => ?_) (fun _ => ?_) <;> try (exfalso; omega)) | (refine wq_gt ⟨by omega, by omega⟩ ⟨by omega, by omega⟩ (fun _ => ?_) (fun _ => ?_) <;> try (exfalso; omega)) | (refine wq_le ⟨by omega, by omega⟩ ⟨by omega, by omega⟩ (fun _ => ?_) (fun _ => ?_) <;> try (exfalso; omega)) | (refine wq_ifeq ⟨by omega, by omega⟩ (fun _ => ?_) (fun _ => ?_) <;> try (exfalso; omega)) | (refine wq_ifne ⟨by omega, by omega⟩ (fun _ => ?_) (fun _ => ?_) <;> try (exfalso; omega)) | (refine wq_iflt ⟨by omega, by omega⟩ (fun _ => ?_) (fun _ => ?_) <;> try (exfalso; omega)) | (refine wq_ifge ⟨by omega, by omega⟩ (fun _ => ?_) (fun _ => ?_) <;> try (exfalso; omega)) | (refine wq_ifgt ⟨by omega, by omega⟩ (fun _ => ?_) (fun _ => ?_) <;> try (exfalso; omega)) | (refine wq_ifle ⟨by omega, by omega⟩ (fun _ => ?_) (fun _ => ?_) <;> try (exfalso; omega)) | refine wq_r rfl rfl rfl rfl rfl rfl ?_))
  exact ⟨by omega, by omega, by omega, fun j hj => by simp at hj⟩
/-- the lowest rule that is pruned next -/
def ofNext : Option Nat → Int
  | none => -6
  | some r => r
theorem c_GM_lowest {G : GS} (h : GM M g G) : Wm 36 [.ref g] M (fun v M' => v = some (.int (I (ofNext (nextP G)))) ∧ M' = M) := by
  obtain ⟨p, X, lt, dp, us, W, h1, h2, h3, w1, w2, w3⟩ := h
  have hX : WFX G.1.length X := fun k hk s hs => w1 k hk s (by rw [← h3 k hk]; exact hs)
  have hus : ∀ j, j < G.1.length → us j = usT G j := fun j hj => by rw [h2.2.1 j hj, usS_congr j h3]; rfl
  have hN := h1.le
  have hml := h1.main.len
  have hub : ∀ j, j < G.1.length → 0 ≤ us j ∧ us j ≤ 100000 := by
    intro j hj
    rw [h2.2.1 j hj]
    have q1 := usS_bd (X := X) j (k := G.1.length) (fun i hi => (h1.row (k := i) (by omega)).len)
    have q2 := cntE_le (8 + (j : Int)) G.2
    omega
  have hs : ∀ j, j < G.1.length → ((us j < 2 ∧ canU G.1.length X G.2 j) ↔ seldB G j = true) := by
    intro j hj
    unfold seldB
    rw [Bool.and_eq_true, decide_eq_true_eq, canB_iff, hus j hj, canU_congr hj h3]
  refine (c_Gr_lowestSeldomUsed h1 hX w2 hub).mono ?_
  rintro v M' ⟨⟨hq, rfl⟩ | ⟨r, hr, q1, q2, q3, rfl⟩, rfl⟩
  · refine ⟨?_, rfl⟩
    have : nextP G = none := by
      unfold nextP
      rw [List.find?_eq_none]
      intro j hj
      rw [List.mem_range] at hj
      exact fun z => hq j hj ((hs j hj).mpr z)
    rw [this]
    rfl
  · refine ⟨?_, rfl⟩
    have : nextP G = some r := by
      unfold nextP
      rw [List.find?_range_eq_some]
      refine ⟨(hs r hr).mp ⟨q1, q2⟩, List.mem_range.mpr hr, fun j hj => ?_⟩
      cases hb : seldB G j with
      | false => rfl
      | true => exact absurd ((hs j (by omega)).mpr hb) (q3 j hj)
    rw [this]
    rfl
end GR9
end
section
/-! Grammar.unrollSeldomUsed, on lists. -/
theorem GM.canX {M : PM} {g : Nat} {G : GS} (h : GM M g G) : G.1.length ≤ 26 := by
  obtain ⟨p, X, lt, dp, us, W, h1, h2, h3, h4⟩ := h
  exact h1.le
theorem nextP_some {G : GS} {r : Nat} (h : nextP G = some r) : r < G.1.length ∧ canB G r = true := by
  unfold nextP at h
  rw [List.find?_range_eq_some] at h
  obtain ⟨h1, h2, h3⟩ := h
  rw [List.mem_range] at h2
  unfold seldB at h1
  rw [Bool.and_eq_true] at h1
  exact ⟨h2, h1.2⟩
section GR10
variable {M : PM} {g : Nat}
theorem c_GM_unroll {G : GS} (h : GM M g G) {r : Nat} (hr : r < G.1.length) (hc : canB G r = true) : Wm 34 [.ref g, .int (I r)] M (fun v M' => v = none ∧ Fr (inG g) M M' ∧ GM M' g (unrG G r)) := by
  obtain ⟨p, X, lt, dp, us, W, h1, h2, h3, w1, w2, w3⟩ := h
  have hX : WFX G.1.length X := fun k hk s hs => w1 k hk s (by rw [← h3 k hk]; exact hs)
  have hcu : canU G.1.length X G.2 r := (canU_congr hr h3).mpr (canB_iff.mp hc)
  have hl := unrG_len (G := G) hr
  refine (c_Gr_unrollRule h1 hX w2 (fun k hk => by rw [h3 k hk]; exact w3 k hk) hr hcu).mono ?_
  rintro v M' ⟨hv, fr, X2, q1, q2, q3, lt', dp', us', W', q4, q5⟩
  have e : ∀ k, k < G.1.length - 1 → X2 k = xof (unrG G r).1 k := by
    intro k hk
    rw [q1 k (by omega), xof_unr hr (by omega), h3 r hr, h3 k (by omega), h3 (k + 1) (by omega)]
  refine ⟨hv, fr, (fun j => p (sgU G.1.length r j)), X2, lt', dp', us', W', ?_, ?_, ?_, ?_, ?_, ?_⟩
  · rw [hl]
    rw [h3 r hr] at q4
    exact q4
  · rw [hl]
    rw [h3 r hr] at q5
    exact q5
  · rw [hl]
    exact e
  · rw [hl]
    exact fun k hk s hs => q2 k hk s (by rw [e k hk]; exact hs)
  · rw [hl]
    rw [h3 r hr] at q3
    exact q3
  · rw [hl]
    intro k hk
    rw [xof_unr hr (by omega)]
    split
    · exact w3 k (by omega)
    · have q6 := unr_len (sym := 8 + (r : Int)) (w3 r hr) (xof G.1 (k + 1))
      have q7 := w3 (k + 1) (by omega)
      omega
theorem lp_unrollS (n : Nat) : ∀ (c : Int) (G : GS) (M1 : PM), (0 ≤ c ∧ c + n = 26 ∧ GM M1 g G ∧ Fr (inG g) M M1) →
    Wp k_X0_unrollSeldomUsed (7, [(0, .ref g), (1, .int (I c)), (2, .int (I (ofNext (nextP G))))], [], M1) (fun v M' => v = some (.int (I (c + (prune n G).2))) ∧ Fr (inG g) M M' ∧ GM M' g (prune n G).1) := by
  induction n with
  | zero =>
    rintro c G M1 ⟨i1, i2, i3, i4⟩
    repeat (refine wf rfl ?_; first | refine wq_iadd ?_ | refine wq_isub ?_ | refine wq_imul ?_ | refine wq_iinc rfl ?_ | refine wq_goto ?_ | refine wq_k rfl ?_ | refine wq_b rfl rfl ?_ | refine wq_getf (by assumption) rfl ?_ | refine wq_alen (by assumption) rfl ?_)
    refine wf rfl (wq_ge ⟨by omega, by omega⟩ ⟨by omega, by omega⟩ (fun c1 => ?_) (fun c1 => by exfalso; omega))
    repeat' (refine wf rfl ?_; first | refine wq_iadd ?_ | refine wq_isub ?_ | refine wq_imul ?_ | refine wq_iinc rfl ?_ | refine wq_goto ?_ | refine wq_k rfl ?_ | refine wq_b rfl rfl ?_ | refine wq_getf (by assumption) rfl ?_ | refine wq_alen (by assumption) rfl ?_ | (refine wq_eq ⟨by omega, by omega⟩ ⟨by omega, by omega⟩ (fun _ => ?_) (fun _ => ?_) <;> try (exfalso; omega)) | (refine wq_ne ⟨by omega, by omega⟩ ⟨by omega, by omega⟩ (fun _ => ?_) (fun _ => ?_) <;> try (exfalso; omega)) | (refine wq_lt ⟨by omega, by omega⟩ ⟨by omega, by omega⟩ (fun _ => ?_) (fun _ => ?_) <;> try (exfalso; omega)) | (refine wq_ge ⟨by omega, by omega⟩ ⟨by omega, by omega⟩ (fun _ => ?_) (fun _ => ?_) <;> try (exfalso; omega)) | (refine wq_gt ⟨by omega, by omega⟩ ⟨by omega, by omega⟩ (fun _ => ?_) (fun _ => ?_) <;> try (exfalso; omega)) | (refine wq_le ⟨by omega, by omega⟩ ⟨by omega, by omega⟩ (fun _ => ?_) (fun _ => ?_) <;> try (exfalso; omega)) | (refine wq_ifeq ⟨by omega, by omega⟩ (fun _ => ?_) (fun _ => ?_) <;> try (exfalso; omega)) | (refine wq_ifne ⟨by omega, by omega⟩ (fun _ => ?_) (fun _ => ?_) <;> try (exfalso; omega)) | (refine wq_iflt ⟨by omega, by omega⟩ (fun _ => ?_) (fun _ => ?_) <;> try (exfalso; omega)) | (refine wq_ifge ⟨by omega, by omega⟩ (fun _ => ?_) (fun _ => ?_) <;> try (exfalso; omega)) | (refine wq_ifgt ⟨by omega, by omega⟩ (fun _ => ?_) (fun _ => ?_) <;> try (exfalso; omega)) | (refine wq_ifle ⟨by omega, by omega⟩ (fun _ => ?_) (fun _ => ?_) <;> try (exfalso; omega)) | refine wq_r rfl rfl rfl rfl rfl rfl ?_)
    exact ⟨by simp [prune], i4, by simpa [prune] using i3⟩
  | succ n ih =>
    rintro c G M1 ⟨i1, i2, i3, i4⟩
    obtain ⟨p, X, lt, dp, us, W, h1, h2⟩ := id i3
    have hg1 := h1.obj
    repeat (refine wf rfl ?_; first | refine wq_iadd ?_ | refine wq_isub ?_ | refine wq_imul ?_ | refine wq_iinc rfl ?_ | refine wq_goto ?_ | refine wq_k rfl ?_ | refine wq_b rfl rfl ?_ | refine wq_getf (by assumption) rfl ?_ | refine wq_alen (by assumption) rfl ?_)
    refine wf rfl (wq_ge ⟨by omega, by omega⟩ ⟨by omega, by omega⟩ (fun c1 => by exfalso; omega) (fun c1 => ?_))
    cases hn : nextP G with
    | none =>
      have e : ofNext none = -6 := rfl
      rw [e]
      repeat' (refine wf rfl ?_; first | refine wq_iadd ?_ | refine wq_isub ?_ | refine wq_imul ?_ | refine wq_iinc rfl ?_ | refine wq_goto ?_ | refine wq_k rfl ?_ | refine wq_b rfl rfl ?_ | refine wq_getf (by assumption) rfl ?_ | refine wq_alen (by assumption) rfl ?_ | (refine wq_eq ⟨by omega, by omega⟩ ⟨by omega, by omega⟩ (fun _ => ?_) (fun _ => ?_) <;> try (exfalso; omega)) | (refine wq_ne ⟨by omega, by omega⟩ ⟨by omega, by omega⟩ (fun _ => ?_) (fun _ => ?_) <;> try (exfalso; omega)) | (refine wq_lt ⟨by omega, by omega⟩ ⟨by omega, by omega⟩ (fun _ => ?_) (fun _ => ?_) <;> try (exfalso; omega)) | (refine wq_ge ⟨by omega, by omega⟩ ⟨by omega, by omega⟩ (fun _ => ?_) (fun _ => ?_) <;> try (exfalso; omega)) | (refine wq_gt ⟨by omega, by omega⟩ ⟨by omega, by omega⟩ (fun _ => ?_) (fun _ => ?_) <;> try (exfalso; omega)) | (refine wq_le ⟨by omega, by omega⟩ ⟨by omega, by omega⟩ (fun _ => ?_) (fun _ => ?_) <;> try (exfalso; omega)) | (refine wq_ifeq ⟨by omega, by omega⟩ (fun _ => ?_) (fun _ => ?_) <;> try (exfalso; omega)) | (refine wq_ifne ⟨by omega, by omega⟩ (fun _ => ?_) (fun _ => ?_) <;> try (exfalso; omega)) | (refine wq_iflt ⟨by omega, by omega⟩ (fun _ => ?_) (fun _ => ?_) <;> try (exfalso; omega)) | (refine wq_ifge ⟨by omega, by omega⟩ (fun _ => ?_) (fun _ => ?_) <;> try (exfalso; omega)) | (refine wq_ifgt ⟨by omega, by omega⟩ (fun _ => ?_) (fun _ => ?_) <;> try (exfalso; omega)) | (refine wq_ifle ⟨by omega, by omega⟩ (fun _ => ?_) (fun _ => ?_) <;> try (exfalso; omega)) | refine wq_r rfl rfl rfl rfl rfl rfl ?_)
      exact ⟨by simp [prune, hn], i4, by simpa [prune, hn] using i3⟩
    | some r =>
      have e : ofNext (some r) = (r : Int) := rfl
      rw [e]
      obtain ⟨hr, hc⟩ := nextP_some hn
      have h26 := i3.canX
      repeat (refine wf rfl ?_; first | refine wq_iadd ?_ | refine wq_isub ?_ | refine wq_imul ?_ | refine wq_iinc rfl ?_ | refine wq_goto ?_ | refine wq_k rfl ?_ | refine wq_b rfl rfl ?_ | refine wq_getf (by assumption) rfl ?_ | refine wq_alen (by assumption) rfl ?_)
      refine wf rfl (wq_eq ⟨by omega, by omega⟩ ⟨by omega, by omega⟩ (fun c2 => by exfalso; omega) (fun c2 => ?_))
      repeat (refine wf rfl ?_; first | refine wq_iadd ?_ | refine wq_isub ?_ | refine wq_imul ?_ | refine wq_iinc rfl ?_ | refine wq_goto ?_ | refine wq_k rfl ?_ | refine wq_b rfl rfl ?_ | refine wq_getf (by assumption) rfl ?_ | refine wq_alen (by assumption) rfl ?_)
      refine wf rfl (wq_cv rfl rfl rfl hg1 ((c_GM_unroll i3 hr hc).mono ?_))
      rintro v M2 ⟨rfl, f2, g2⟩
      obtain ⟨p', X', lt', dp', us', W', h1', h2'⟩ := id g2
      have hg2 := h1'.obj
      repeat (refine wf rfl ?_; first | refine wq_iadd ?_ | refine wq_isub ?_ | refine wq_imul ?_ | refine wq_iinc rfl ?_ | refine wq_goto ?_ | refine wq_k rfl ?_ | refine wq_b rfl rfl ?_ | refine wq_getf (by assumption) rfl ?_ | refine wq_alen (by assumption) rfl ?_)
      refine wf rfl (wq_cv rfl rfl rfl hg2 ((c_GM_lowest g2).mono ?_))
      rintro v M2 ⟨rfl, rfl⟩
      have hstep := fun (_ : True) => ih (c + 1) (unrG G r) M2 ⟨by omega, by omega, g2, i4.tr f2⟩
      rw [show (prune (n + 1) G).2 = (prune n (unrG G r)).2 + 1 by rw [prune, hn], show (prune (n + 1) G).1 = (prune n (unrG G r)).1 by rw [prune, hn], show c + (((prune n (unrG G r)).2 + 1 : Nat) : Int) = c + 1 + (prune n (unrG G r)).2 by omega]
      repeat' (first | (refine Wp.sub (hstep  ?_) ⟨rfl, rfl, rfl, trivial⟩ rfl) | (refine wf rfl ?_; first | refine wq_iadd ?_ | refine wq_isub ?_ | refine wq_imul ?_ | refine wq_iinc rfl ?_ | refine wq_goto ?_ | refine wq_k rfl ?_ | refine wq_b rfl rfl ?_ | refine wq_getf (by assumption) rfl ?_ | refine wq_alen (by assumption) rfl ?_ | fail | (refine wq_eq ⟨by omega, by omega⟩ ⟨by omega, by omega⟩ (fun _ => ?_) (fun _ => ?_) <;> try (exfalso; omega)) | (refine wq_ne ⟨by omega, by omega⟩ ⟨by omega, by omega⟩ (fun _ => ?_) (fun _ => ?_) <;> try (exfalso; omega)) | (refine wq_lt ⟨by omega, by omega⟩ ⟨by omega, by omega⟩ (fun _ => ?_) (fun _ => ?_) <;> try (exfalso; omega)) | (refine wq_ge ⟨by omega, by omega⟩ ⟨by omega, by omega⟩ (fun _ => ?_) (fun _ => ?_) <;> try (exfalso; omega)) | (refine wq_gt ⟨by omega, by omega⟩ ⟨by omega, by omega⟩ (fun _ => ?_) (fun _ => ?_) <;> try (exfalso; omega)) | (refine wq_le ⟨by omega, by omega⟩ ⟨by omega, by omega⟩ (fun _ => ?_) (fun _ => ?_) <;> try (exfalso; omega)) | (refine wq_ifeq ⟨by omega, by omega⟩ (fun _ => ?_) (fun _ => ?_) <;> try (exfalso; omega)) | (refine wq_ifne ⟨by omega, by omega⟩ (fun _ => ?_) (fun _ => ?_) <;> try (exfalso; omega)) | (refine wq_iflt ⟨by omega, by omega⟩ (fun _ => ?_) (fun _ => ?_) <;> try (exfalso; omega)) | (refine wq_ifge ⟨by omega, by omega⟩ (fun _ => ?_) (fun _ => ?_) <;> try (exfalso; omega)) | (refine wq_ifgt ⟨by omega, by omega⟩ (fun _ => ?_) (fun _ => ?_) <;> try (exfalso; omega)) | (refine wq_ifle ⟨by omega, by omega⟩ (fun _ => ?_) (fun _ => ?_) <;> try (exfalso; omega)) | refine wq_r rfl rfl rfl rfl rfl rfl ?_))
      trivial
theorem c_Gr_unrollSeldomUsed {G : GS} (h : GM M g G) : Wm 35 [.ref g] M (fun v M' => v = some (.int (I ((prune 26 G).2 : Nat))) ∧ Fr (inG g) M M' ∧ GM M' g (prune 26 G).1) := by
  obtain ⟨p, X, lt, dp, us, W, h1, h2⟩ := id h
  have hg1 := h1.obj
  have hstep := fun (_ : True) => lp_unrollS (M := M) 26 0 G M ⟨by omega, by omega, h, Fr.rf⟩
  rw [show (0 : Int) + ((prune 26 G).2 : Nat) = ((prune 26 G).2 : Nat) by omega] at hstep
  refine wm_in (lv := _) rfl rfl rfl ?_
  repeat (refine wf rfl ?_; first | refine wq_iadd ?_ | refine wq_isub ?_ | refine wq_imul ?_ | refine wq_iinc rfl ?_ | refine wq_goto ?_ | refine wq_k rfl ?_ | refine wq_b rfl rfl ?_ | refine wq_getf (by assumption) rfl ?_ | refine wq_alen (by assumption) rfl ?_)
  refine wf rfl (wq_cv rfl rfl rfl hg1 ((c_GM_lowest h).mono ?_))
  rintro v M ⟨rfl, rfl⟩
  repeat' (first | (refine Wp.sub (hstep  ?_) ⟨rfl, rfl, rfl, trivial⟩ rfl) | (refine wf rfl ?_; first | refine wq_iadd ?_ | refine wq_isub ?_ | refine wq_imul ?_ | refine wq_iinc rfl ?_ | refine wq_goto ?_ | refine wq_k rfl ?_ | refine wq_b rfl rfl ?_ | refine wq_getf (by assumption) rfl ?_ | refine wq_alen (by assumption) rfl ?_ | fail | (refine wq_eq ⟨by omega, by omega⟩ ⟨by omega, by omega⟩ (fun _ => ?_) (fun _ => ?_) <;> try (exfalso; omega)) | (refine wq_ne ⟨by omega, by omega⟩ ⟨by omega, by omega⟩ (fun _ => ?_) (fun _ => ?_) <;> try (exfalso; omega)) | (refine wq_lt ⟨by omega, by omega⟩ ⟨by omega, by omega⟩ (fun _ => ?_) (fun _ => ?_) <;> try (exfalso; omega)) | (refine wq_ge ⟨by omega, by omega⟩ ⟨by omega, by omega⟩ (fun _ => ?_) (fun _ => ?_) <;> try (exfalso; omega)) | (refine wq_gt ⟨by omega, by omega⟩ ⟨by omega, by omega⟩ (fun _ => ?_) (fun _ => ?_) <;> try (exfalso; omega)) | (refine wq_le ⟨by omega, by omega⟩ ⟨by omega, by omega⟩ (fun _ => ?_) (fun _ => ?_) <;> try (exfalso; omega)) | (refine wq_ifeq ⟨by omega, by omega⟩ (fun _ => ?_) (fun _ => ?_) <;> try (exfalso; omega)) | (refine wq_ifne ⟨by omega, by omega⟩ (fun _ => ?_) (fun _ => ?_) <;> try (exfalso; omega)) | (refine wq_iflt ⟨by omega, by omega⟩ (fun _ => ?_) (fun _ => ?_) <;> try (exfalso; omega)) | (refine wq_ifge ⟨by omega, by omega⟩ (fun _ => ?_) (fun _ => ?_) <;> try (exfalso; omega)) | (refine wq_ifgt ⟨by omega, by omega⟩ (fun _ => ?_) (fun _ => ?_) <;> try (exfalso; omega)) | (refine wq_ifle ⟨by omega, by omega⟩ (fun _ => ?_) (fun _ => ?_) <;> try (exfalso; omega)) | refine wq_r rfl rfl rfl rfl rfl rfl ?_))
  trivial
end GR10
end
section
/-! The counter of pairs (class Pairs): its object at q, its array at q + 1. -/
def Pz (M : PM) (q : Nat) (u : Nat → Int) (bf bs bt : Int) : Prop := M[q]? = some (.inr (3, [.ref (q + 1), .int (I bf), .int (I bs), .int (I bt)])) ∧ M[q + 1]? = some (aJ 1156 u)
def key (xs : List Int) (p : Int) : Int := rat xs p * 34 + rat xs (p + 1)
theorem rat_in_bd {xs : List Int} (hb : SB xs) {p : Int} (h0 : 0 ≤ p) (h1 : p < xs.length) : 0 ≤ rat xs p ∧ rat xs p < 34 := hb _ (rat_mem h0 h1)
theorem key_bd {xs : List Int} (hb : SB xs) {p : Int} (h0 : 0 ≤ p) (h1 : p + 1 < xs.length) : 0 ≤ key xs p ∧ key xs p < 1156 := by
  have e1 := rat_in_bd hb (p := p) h0 (by omega)
  have e2 := rat_in_bd hb (p := p + 1) (by omega) h1
  unfold key
  omega
theorem key_eq {xs : List Int} (hb : SB xs) {p k : Int} (h0 : 0 ≤ p) (h1 : p + 1 < xs.length) (h2 : 0 ≤ k) (h3 : k + 1 < xs.length) : key xs p = key xs k ↔ rat xs p = rat xs k ∧ rat xs (p + 1) = rat xs (k + 1) := by
  have e1 := rat_in_bd hb (p := p) h0 (by omega)
  have e2 := rat_in_bd hb (p := p + 1) (by omega) h1
  have e3 := rat_in_bd hb (p := k) h2 (by omega)
  have e4 := rat_in_bd hb (p := k + 1) (by omega) h3
  unfold key
  omega
section PR1
variable {M : PM} {q a : Nat} {u : Nat → Int} {bf bs bt : Int} {xs : List Int}
theorem Pz.fr {P : Nat → Prop} {M' : PM} (h : Pz M q u bf bs bt) (f : Fr P M M') (h1 : ¬ P q) (h2 : ¬ P (q + 1)) : Pz M' q u bf bs bt := ⟨f.at h1 h.1, f.at h2 h.2⟩
theorem c_Pairs_bestFirst (h : Pz M q u bf bs bt) : Wm 47 [.ref q] M (fun v M' => v = some (.int (I bf)) ∧ M' = M) := by
  obtain ⟨h1, h2⟩ := h
  refine wm_in (lv := _) rfl rfl rfl ?_
  repeat' (refine wf rfl ?_; first | refine wq_iadd ?_ | refine wq_isub ?_ | refine wq_imul ?_ | refine wq_iinc rfl ?_ | refine wq_goto ?_ | refine wq_k rfl ?_ | refine wq_b rfl rfl ?_ | refine wq_getf (by assumption) rfl ?_ | refine wq_alen (by assumption) rfl ?_ | (refine wq_eq ⟨by omega, by omega⟩ ⟨by omega, by omega⟩ (fun _ => ?_) (fun _ => ?_) <;> try (exfalso; omega)) | (refine wq_ne ⟨by omega, by omega⟩ ⟨by omega, by omega⟩ (fun _ => ?_) (fun _ => ?_) <;> try (exfalso; omega)) | (refine wq_lt ⟨by omega, by omega⟩ ⟨by omega, by omega⟩ (fun _ => ?_) (fun _ => ?_) <;> try (exfalso; omega)) | (refine wq_ge ⟨by omega, by omega⟩ ⟨by omega, by omega⟩ (fun _ => ?_) (fun _ => ?_) <;> try (exfalso; omega)) | (refine wq_gt ⟨by omega, by omega⟩ ⟨by omega, by omega⟩ (fun _ => ?_) (fun _ => ?_) <;> try (exfalso; omega)) | (refine wq_le ⟨by omega, by omega⟩ ⟨by omega, by omega⟩ (fun _ => ?_) (fun _ => ?_) <;> try (exfalso; omega)) | (refine wq_ifeq ⟨by omega, by omega⟩ (fun _ => ?_) (fun _ => ?_) <;> try (exfalso; omega)) | (refine wq_ifne ⟨by omega, by omega⟩ (fun _ => ?_) (fun _ => ?_) <;> try (exfalso; omega)) | (refine wq_iflt ⟨by omega, by omega⟩ (fun _ => ?_) (fun _ => ?_) <;> try (exfalso; omega)) | (refine wq_ifge ⟨by omega, by omega⟩ (fun _ => ?_) (fun _ => ?_) <;> try (exfalso; omega)) | (refine wq_ifgt ⟨by omega, by omega⟩ (fun _ => ?_) (fun _ => ?_) <;> try (exfalso; omega)) | (refine wq_ifle ⟨by omega, by omega⟩ (fun _ => ?_) (fun _ => ?_) <;> try (exfalso; omega)) | refine wq_r rfl rfl rfl rfl rfl rfl ?_)
  exact ⟨rfl, rfl⟩
theorem c_Pairs_bestSecond (h : Pz M q u bf bs bt) : Wm 48 [.ref q] M (fun v M' => v = some (.int (I bs)) ∧ M' = M) := by
  obtain ⟨h1, h2⟩ := h
  refine wm_in (lv := _) rfl rfl rfl ?_
  repeat' (refine wf rfl ?_; first | refine wq_iadd ?_ | refine wq_isub ?_ | refine wq_imul ?_ | refine wq_iinc rfl ?_ | refine wq_goto ?_ | refine wq_k rfl ?_ | refine wq_b rfl rfl ?_ | refine wq_getf (by assumption) rfl ?_ | refine wq_alen (by assumption) rfl ?_ | (refine wq_eq ⟨by omega, by omega⟩ ⟨by omega, by omega⟩ (fun _ => ?_) (fun _ => ?_) <;> try (exfalso; omega)) | (refine wq_ne ⟨by omega, by omega⟩ ⟨by omega, by omega⟩ (fun _ => ?_) (fun _ => ?_) <;> try (exfalso; omega)) | (refine wq_lt ⟨by omega, by omega⟩ ⟨by omega, by omega⟩ (fun _ => ?_) (fun _ => ?_) <;> try (exfalso; omega)) | (refine wq_ge ⟨by omega, by omega⟩ ⟨by omega, by omega⟩ (fun _ => ?_) (fun _ => ?_) <;> try (exfalso; omega)) | (refine wq_gt ⟨by omega, by omega⟩ ⟨by omega, by omega⟩ (fun _ => ?_) (fun _ => ?_) <;> try (exfalso; omega)) | (refine wq_le ⟨by omega, by omega⟩ ⟨by omega, by omega⟩ (fun _ => ?_) (fun _ => ?_) <;> try (exfalso; omega)) | (refine wq_ifeq ⟨by omega, by omega⟩ (fun _ => ?_) (fun _ => ?_) <;> try (exfalso; omega)) | (refine wq_ifne ⟨by omega, by omega⟩ (fun _ => ?_) (fun _ => ?_) <;> try (exfalso; omega)) | (refine wq_iflt ⟨by omega, by omega⟩ (fun _ => ?_) (fun _ => ?_) <;> try (exfalso; omega)) | (refine wq_ifge ⟨by omega, by omega⟩ (fun _ => ?_) (fun _ => ?_) <;> try (exfalso; omega)) | (refine wq_ifgt ⟨by omega, by omega⟩ (fun _ => ?_) (fun _ => ?_) <;> try (exfalso; omega)) | (refine wq_ifle ⟨by omega, by omega⟩ (fun _ => ?_) (fun _ => ?_) <;> try (exfalso; omega)) | refine wq_r rfl rfl rfl rfl rfl rfl ?_)
  exact ⟨rfl, rfl⟩
theorem c_Pairs_bestTimes (h : Pz M q u bf bs bt) : Wm 49 [.ref q] M (fun v M' => v = some (.int (I bt)) ∧ M' = M) := by
  obtain ⟨h1, h2⟩ := h
  refine wm_in (lv := _) rfl rfl rfl ?_
  repeat' (refine wf rfl ?_; first | refine wq_iadd ?_ | refine wq_isub ?_ | refine wq_imul ?_ | refine wq_iinc rfl ?_ | refine wq_goto ?_ | refine wq_k rfl ?_ | refine wq_b rfl rfl ?_ | refine wq_getf (by assumption) rfl ?_ | refine wq_alen (by assumption) rfl ?_ | (refine wq_eq ⟨by omega, by omega⟩ ⟨by omega, by omega⟩ (fun _ => ?_) (fun _ => ?_) <;> try (exfalso; omega)) | (refine wq_ne ⟨by omega, by omega⟩ ⟨by omega, by omega⟩ (fun _ => ?_) (fun _ => ?_) <;> try (exfalso; omega)) | (refine wq_lt ⟨by omega, by omega⟩ ⟨by omega, by omega⟩ (fun _ => ?_) (fun _ => ?_) <;> try (exfalso; omega)) | (refine wq_ge ⟨by omega, by omega⟩ ⟨by omega, by omega⟩ (fun _ => ?_) (fun _ => ?_) <;> try (exfalso; omega)) | (refine wq_gt ⟨by omega, by omega⟩ ⟨by omega, by omega⟩ (fun _ => ?_) (fun _ => ?_) <;> try (exfalso; omega)) | (refine wq_le ⟨by omega, by omega⟩ ⟨by omega, by omega⟩ (fun _ => ?_) (fun _ => ?_) <;> try (exfalso; omega)) | (refine wq_ifeq ⟨by omega, by omega⟩ (fun _ => ?_) (fun _ => ?_) <;> try (exfalso; omega)) | (refine wq_ifne ⟨by omega, by omega⟩ (fun _ => ?_) (fun _ => ?_) <;> try (exfalso; omega)) | (refine wq_iflt ⟨by omega, by omega⟩ (fun _ => ?_) (fun _ => ?_) <;> try (exfalso; omega)) | (refine wq_ifge ⟨by omega, by omega⟩ (fun _ => ?_) (fun _ => ?_) <;> try (exfalso; omega)) | (refine wq_ifgt ⟨by omega, by omega⟩ (fun _ => ?_) (fun _ => ?_) <;> try (exfalso; omega)) | (refine wq_ifle ⟨by omega, by omega⟩ (fun _ => ?_) (fun _ => ?_) <;> try (exfalso; omega)) | refine wq_r rfl rfl rfl rfl rfl rfl ?_)
  exact ⟨rfl, rfl⟩
theorem c_Pairs_keyAt (h : Pz M q u bf bs bt) (hr : Rw M a xs) (hb : SB xs) {p : Int} (h0 : 0 ≤ p) (h1 : p + 1 < xs.length) : Wm 52 [.ref q, .ref a, .int (I p)] M (fun v M' => v = some (.int (I (key xs p))) ∧ M' = M) := by
  have hl := hr.len
  have hk := key_bd hb h0 h1
  have hat := c_Row_at (p := p) ⟨by omega, by omega⟩ hr
  have hat1 := c_Row_at (p := p + 1) ⟨by omega, by omega⟩ hr
  obtain ⟨h2, h3⟩ := h
  obtain ⟨gg, r1, r2, r3, r4⟩ := id hr
  refine wm_in (lv := _) rfl rfl rfl ?_
  repeat (refine wf rfl ?_; first | refine wq_iadd ?_ | refine wq_isub ?_ | refine wq_imul ?_ | refine wq_iinc rfl ?_ | refine wq_goto ?_ | refine wq_k rfl ?_ | refine wq_b rfl rfl ?_ | refine wq_getf (by assumption) rfl ?_ | refine wq_alen (by assumption) rfl ?_)
  refine wf rfl (wq_cv rfl rfl rfl r1 (hat.mono ?_))
  rintro v M ⟨rfl, rfl⟩
  repeat (refine wf rfl ?_; first | refine wq_iadd ?_ | refine wq_isub ?_ | refine wq_imul ?_ | refine wq_iinc rfl ?_ | refine wq_goto ?_ | refine wq_k rfl ?_ | refine wq_b rfl rfl ?_ | refine wq_getf (by assumption) rfl ?_ | refine wq_alen (by assumption) rfl ?_)
  refine wf rfl (wq_cv rfl rfl rfl r1 (hat1.mono ?_))
  rintro v M ⟨rfl, rfl⟩
  have ek : rat xs p * 34 + rat xs (p + 1) = key xs p := rfl
  repeat (refine wf rfl ?_; first | refine wq_iadd ?_ | refine wq_isub ?_ | refine wq_imul ?_ | refine wq_iinc rfl ?_ | refine wq_goto ?_ | refine wq_k rfl ?_ | refine wq_b rfl rfl ?_ | refine wq_getf (by assumption) rfl ?_ | refine wq_alen (by assumption) rfl ?_)
  rw [ek]
  repeat' (refine wf rfl ?_; first | refine wq_iadd ?_ | refine wq_isub ?_ | refine wq_imul ?_ | refine wq_iinc rfl ?_ | refine wq_goto ?_ | refine wq_k rfl ?_ | refine wq_b rfl rfl ?_ | refine wq_getf (by assumption) rfl ?_ | refine wq_alen (by assumption) rfl ?_ | (refine wq_eq ⟨by omega, by omega⟩ ⟨by omega, by omega⟩ (fun _ => ?_) (fun _ => ?_) <;> try (exfalso; omega)) | (refine wq_ne ⟨by omega, by omega⟩ ⟨by omega, by omega⟩ (fun _ => ?_) (fun _ => ?_) <;> try (exfalso; omega)) | (refine wq_lt ⟨by omega, by omega⟩ ⟨by omega, by omega⟩ (fun _ => ?_) (fun _ => ?_) <;> try (exfalso; omega)) | (refine wq_ge ⟨by omega, by omega⟩ ⟨by omega, by omega⟩ (fun _ => ?_) (fun _ => ?_) <;> try (exfalso; omega)) | (refine wq_gt ⟨by omega, by omega⟩ ⟨by omega, by omega⟩ (fun _ => ?_) (fun _ => ?_) <;> try (exfalso; omega)) | (refine wq_le ⟨by omega, by omega⟩ ⟨by omega, by omega⟩ (fun _ => ?_) (fun _ => ?_) <;> try (exfalso; omega)) | (refine wq_ifeq ⟨by omega, by omega⟩ (fun _ => ?_) (fun _ => ?_) <;> try (exfalso; omega)) | (refine wq_ifne ⟨by omega, by omega⟩ (fun _ => ?_) (fun _ => ?_) <;> try (exfalso; omega)) | (refine wq_iflt ⟨by omega, by omega⟩ (fun _ => ?_) (fun _ => ?_) <;> try (exfalso; omega)) | (refine wq_ifge ⟨by omega, by omega⟩ (fun _ => ?_) (fun _ => ?_) <;> try (exfalso; omega)) | (refine wq_ifgt ⟨by omega, by omega⟩ (fun _ => ?_) (fun _ => ?_) <;> try (exfalso; omega)) | (refine wq_ifle ⟨by omega, by omega⟩ (fun _ => ?_) (fun _ => ?_) <;> try (exfalso; omega)) | refine wq_r rfl rfl rfl rfl rfl rfl ?_)
  exact ⟨rfl, rfl⟩
end PR1
end
section
section PR2
variable {M : PM} {q a : Nat} {u : Nat → Int} {bf bs bt : Int} {xs : List Int}
/-- where the count of a pair goes on -/
def nxp (xs : List Int) (c p f s : Int) : Int := if c = 1 ∧ rat xs (p - 1) = f ∧ rat xs p = s then p + 1 else p
theorem nxp_ov {p f s : Int} (hb : SB xs) (h0 : 1 ≤ p) (h1 : p + 1 < xs.length) (hk : key xs (p - 1) = key xs p) : cnt2 f s (xs.drop (nxp xs 1 p f s).toNat) = cnt2 f s (xs.drop (nxp xs 0 (p + 1) f s).toNat) := by
  have hk1 := (key_eq hb (p := p - 1) (k := p) (by omega) (by omega) (by omega) h1).mp hk
  rw [show p - 1 + 1 = p by omega] at hk1
  unfold nxp
  rw [if_neg (c := (0 : Int) = 1 ∧ rat xs (p + 1 - 1) = f ∧ rat xs (p + 1) = s) (by omega)]
  by_cases hq : rat xs (p - 1) = f ∧ rat xs p = s
  · rw [if_pos ⟨rfl, hq⟩]
  · rw [if_neg (fun z => hq z.2)]
    exact cnt2_no (by omega) (fun z => by obtain ⟨z1, z2, z3, z4⟩ := z; omega)
theorem nxp_no {c p f s : Int} (hb : SB xs) (hc : c = 1 → 1 ≤ p) (h0 : 0 ≤ p) (h1 : p + 1 < xs.length) (hk : ¬ (c = 1 ∧ key xs (p - 1) = key xs p)) : cnt2 f s (xs.drop (nxp xs c p f s).toNat) = cnt2 f s (xs.drop (nxp xs 1 (p + 1) f s).toNat) + (if rat xs p = f ∧ rat xs (p + 1) = s then 1 else 0) := by
  unfold nxp
  rw [show p + 1 - 1 = p by omega]
  by_cases hq : rat xs p = f ∧ rat xs (p + 1) = s
  · rw [if_pos hq, if_pos (c := (1 : Int) = 1 ∧ rat xs p = f ∧ rat xs (p + 1) = s) ⟨rfl, hq⟩]
    have hn : ¬ (c = 1 ∧ rat xs (p - 1) = f ∧ rat xs p = s) := by
      rintro ⟨z1, z2, z3⟩
      have := hc z1
      refine hk ⟨z1, (key_eq hb (p := p - 1) (k := p) (by omega) (by omega) (by omega) h1).mpr ?_⟩
      rw [show p - 1 + 1 = p by omega]
      omega
    rw [if_neg hn, show p + 1 + 1 = p + 2 by omega]
    exact cnt2_yes h0 ⟨by omega, h1, hq⟩
  · rw [if_neg hq, if_neg (c := (1 : Int) = 1 ∧ rat xs p = f ∧ rat xs (p + 1) = s) (fun z => hq z.2), Nat.add_zero]
    by_cases hz : c = 1 ∧ rat xs (p - 1) = f ∧ rat xs p = s
    · rw [if_pos hz]
    · rw [if_neg hz]
      exact cnt2_no h0 (fun z => hq z.2.2)
abbrev cntPost (M : PM) (q : Nat) (bf bs bt : Int) (xs : List Int) : Option Value → PM → Prop := fun v M' => v = none ∧ Fr (fun z => z = q + 1) M M' ∧ ∃ u', Pz M' q u' bf bs bt ∧ ∀ j : Int, 0 ≤ j → j + 1 < xs.length → u' (key xs j).toNat = (cnt2 (rat xs j) (rat xs (j + 1)) xs : Int)
theorem lp_cnt (hr : Rw M a xs) (hb : SB xs) (ha : a ≠ q + 1 ∧ a + 1 ≠ q + 1) (n : Nat) : ∀ (c p : Int) (M1 : PM), (0 ≤ p ∧ p ≤ xs.length ∧ xs.length - p < n ∧ (c = 0 ∨ c = 1) ∧ (c = 1 → 1 ≤ p) ∧ Fr (fun z => z = q + 1) M M1 ∧ ∃ u1, Pz M1 q u1 bf bs bt ∧ ∀ j : Int, 0 ≤ j → j + 1 < xs.length → u1 (key xs j).toNat + (cnt2 (rat xs j) (rat xs (j + 1)) (xs.drop (nxp xs c p (rat xs j) (rat xs (j + 1))).toNat) : Int) = (cnt2 (rat xs j) (rat xs (j + 1)) xs : Int)) →
    Wp k_X3_countAll (34, [(0, .ref q), (1, .ref a), (2, .int (I c)), (3, .int (I p))], [], M1) (cntPost M q bf bs bt xs) := by
  have hl := hr.len
  induction n with
  | zero => intro c p M1 hi; exfalso; omega
  | succ n ih =>
    intro c p M1 hi
    obtain ⟨i1, i2, i3, i4, i5, i6, u1, i7, i8⟩ := hi
    have hr1 := hr.fr i6 ha.1 ha.2
    have hsz := c_Row_size hr1
    obtain ⟨p1, p2⟩ := id i7
    obtain ⟨gg, r1, r2, r3, r4⟩ := id hr1
    by_cases hp : p + 1 < xs.length
    · have kb := key_bd hb i1 hp
      have hka := c_Pairs_keyAt i7 hr1 hb i1 hp
      have hY : ¬ (c = 1 ∧ key xs (p - 1) = key xs p) → Wp k_X3_countAll (69, [(0, .ref q), (1, .ref a), (2, .int (I c)), (3, .int (I p))], [], M1) (cntPost M q bf bs bt xs) := by
        intro hno
        repeat' (refine wf rfl ?_; first | refine wq_iadd ?_ | refine wq_isub ?_ | refine wq_imul ?_ | refine wq_iinc rfl ?_ | refine wq_goto ?_ | refine wq_k rfl ?_ | refine wq_b rfl rfl ?_ | refine wq_getf (by assumption) rfl ?_ | refine wq_alen (by assumption) rfl ?_ | (refine wq_eq ⟨by omega, by omega⟩ ⟨by omega, by omega⟩ (fun _ => ?_) (fun _ => ?_) <;> try (exfalso; omega)) | (refine wq_ne ⟨by omega, by omega⟩ ⟨by omega, by omega⟩ (fun _ => ?_) (fun _ => ?_) <;> try (exfalso; omega)) | (refine wq_lt ⟨by omega, by omega⟩ ⟨by omega, by omega⟩ (fun _ => ?_) (fun _ => ?_) <;> try (exfalso; omega)) | (refine wq_ge ⟨by omega, by omega⟩ ⟨by omega, by omega⟩ (fun _ => ?_) (fun _ => ?_) <;> try (exfalso; omega)) | (refine wq_gt ⟨by omega, by omega⟩ ⟨by omega, by omega⟩ (fun _ => ?_) (fun _ => ?_) <;> try (exfalso; omega)) | (refine wq_le ⟨by omega, by omega⟩ ⟨by omega, by omega⟩ (fun _ => ?_) (fun _ => ?_) <;> try (exfalso; omega)) | (refine wq_ifeq ⟨by omega, by omega⟩ (fun _ => ?_) (fun _ => ?_) <;> try (exfalso; omega)) | (refine wq_ifne ⟨by omega, by omega⟩ (fun _ => ?_) (fun _ => ?_) <;> try (exfalso; omega)) | (refine wq_iflt ⟨by omega, by omega⟩ (fun _ => ?_) (fun _ => ?_) <;> try (exfalso; omega)) | (refine wq_ifge ⟨by omega, by omega⟩ (fun _ => ?_) (fun _ => ?_) <;> try (exfalso; omega)) | (refine wq_ifgt ⟨by omega, by omega⟩ (fun _ => ?_) (fun _ => ?_) <;> try (exfalso; omega)) | (refine wq_ifle ⟨by omega, by omega⟩ (fun _ => ?_) (fun _ => ?_) <;> try (exfalso; omega)) | refine wq_r rfl rfl rfl rfl rfl rfl ?_)
        refine wf rfl (wq_cv rfl rfl rfl p1 (hka.mono ?_))
        rintro v M1 ⟨rfl, rfl⟩
        repeat (refine wf rfl ?_; first | refine wq_iadd ?_ | refine wq_isub ?_ | refine wq_imul ?_ | refine wq_iinc rfl ?_ | refine wq_goto ?_ | refine wq_k rfl ?_ | refine wq_b rfl rfl ?_ | refine wq_getf (by assumption) rfl ?_ | refine wq_alen (by assumption) rfl ?_)
        refine wf rfl (wq_iald p2 ⟨by omega, by omega⟩ (by omega) (by omega) ?_)
        repeat (refine wf rfl ?_; first | refine wq_iadd ?_ | refine wq_isub ?_ | refine wq_imul ?_ | refine wq_iinc rfl ?_ | refine wq_goto ?_ | refine wq_k rfl ?_ | refine wq_b rfl rfl ?_ | refine wq_getf (by assumption) rfl ?_ | refine wq_alen (by assumption) rfl ?_)
        refine wf rfl (wq_iast p2 rfl ⟨by omega, by omega⟩ (by omega) (by omega) (fun M2 e2 f2 => ?_))
        repeat' (first | (refine Wp.sub (ih _ _ _ ?_) ⟨rfl, rfl, rfl, rfl, trivial⟩ rfl) | (refine wf rfl ?_; first | refine wq_iadd ?_ | refine wq_isub ?_ | refine wq_imul ?_ | refine wq_iinc rfl ?_ | refine wq_goto ?_ | refine wq_k rfl ?_ | refine wq_b rfl rfl ?_ | refine wq_getf (by assumption) rfl ?_ | refine wq_alen (by assumption) rfl ?_ | fail | (refine wq_eq ⟨by omega, by omega⟩ ⟨by omega, by omega⟩ (fun _ => ?_) (fun _ => ?_) <;> try (exfalso; omega)) | (refine wq_ne ⟨by omega, by omega⟩ ⟨by omega, by omega⟩ (fun _ => ?_) (fun _ => ?_) <;> try (exfalso; omega)) | (refine wq_lt ⟨by omega, by omega⟩ ⟨by omega, by omega⟩ (fun _ => ?_) (fun _ => ?_) <;> try (exfalso; omega)) | (refine wq_ge ⟨by omega, by omega⟩ ⟨by omega, by omega⟩ (fun _ => ?_) (fun _ => ?_) <;> try (exfalso; omega)) | (refine wq_gt ⟨by omega, by omega⟩ ⟨by omega, by omega⟩ (fun _ => ?_) (fun _ => ?_) <;> try (exfalso; omega)) | (refine wq_le ⟨by omega, by omega⟩ ⟨by omega, by omega⟩ (fun _ => ?_) (fun _ => ?_) <;> try (exfalso; omega)) | (refine wq_ifeq ⟨by omega, by omega⟩ (fun _ => ?_) (fun _ => ?_) <;> try (exfalso; omega)) | (refine wq_ifne ⟨by omega, by omega⟩ (fun _ => ?_) (fun _ => ?_) <;> try (exfalso; omega)) | (refine wq_iflt ⟨by omega, by omega⟩ (fun _ => ?_) (fun _ => ?_) <;> try (exfalso; omega)) | (refine wq_ifge ⟨by omega, by omega⟩ (fun _ => ?_) (fun _ => ?_) <;> try (exfalso; omega)) | (refine wq_ifgt ⟨by omega, by omega⟩ (fun _ => ?_) (fun _ => ?_) <;> try (exfalso; omega)) | (refine wq_ifle ⟨by omega, by omega⟩ (fun _ => ?_) (fun _ => ?_) <;> try (exfalso; omega)) | refine wq_r rfl rfl rfl rfl rfl rfl ?_))
        refine ⟨by omega, by omega, by omega, Or.inr rfl, fun _ => by omega, i6.tr f2, _, ⟨f2.at (by omega) p1, e2⟩, fun j j0 j1 => ?_⟩
        have hst := nxp_no (f := rat xs j) (s := rat xs (j + 1)) hb i5 i1 hp hno
        have hj := i8 j j0 j1
        have kj := key_bd hb j0 j1
        by_cases he : key xs j = key xs p
        · have he2 := (key_eq hb j0 j1 i1 hp).mp he
          rw [if_pos (by omega)] at hst
          rw [he, upz_at, ← he]
          omega
        · have he2 : ¬ (rat xs p = rat xs j ∧ rat xs (p + 1) = rat xs (j + 1)) := fun z => he ((key_eq hb j0 j1 i1 hp).mpr (by omega))
          rw [if_neg he2] at hst
          rw [upz_ne _ _ (by omega)]
          omega
      repeat (refine wf rfl ?_; first | refine wq_iadd ?_ | refine wq_isub ?_ | refine wq_imul ?_ | refine wq_iinc rfl ?_ | refine wq_goto ?_ | refine wq_k rfl ?_ | refine wq_b rfl rfl ?_ | refine wq_getf (by assumption) rfl ?_ | refine wq_alen (by assumption) rfl ?_)
      refine wf rfl (wq_cv rfl rfl rfl r1 (hsz.mono ?_))
      rintro v M1 ⟨rfl, rfl⟩
      refine wf rfl (wq_ge ⟨by omega, by omega⟩ ⟨by omega, by omega⟩ (fun c2 => by exfalso; omega) (fun c2 => ?_))
      repeat (refine wf rfl ?_; first | refine wq_iadd ?_ | refine wq_isub ?_ | refine wq_imul ?_ | refine wq_iinc rfl ?_ | refine wq_goto ?_ | refine wq_k rfl ?_ | refine wq_b rfl rfl ?_ | refine wq_getf (by assumption) rfl ?_ | refine wq_alen (by assumption) rfl ?_)
      refine wf rfl (wq_ifeq ⟨by omega, by omega⟩ (fun c3 => ?_) (fun c3 => ?_))
      · exact hY (fun z => by omega)
      · have hc1 : c = 1 := by omega
        have h1p := i5 hc1
        have kb0 := key_bd hb (p := p - 1) (by omega) (by omega)
        have hk0 := c_Pairs_keyAt i7 hr1 hb (p := p - 1) (by omega) (by omega)
        repeat (refine wf rfl ?_; first | refine wq_iadd ?_ | refine wq_isub ?_ | refine wq_imul ?_ | refine wq_iinc rfl ?_ | refine wq_goto ?_ | refine wq_k rfl ?_ | refine wq_b rfl rfl ?_ | refine wq_getf (by assumption) rfl ?_ | refine wq_alen (by assumption) rfl ?_)
        refine wf rfl (wq_cv rfl rfl rfl p1 (hk0.mono ?_))
        rintro v M1 ⟨rfl, rfl⟩
        repeat (refine wf rfl ?_; first | refine wq_iadd ?_ | refine wq_isub ?_ | refine wq_imul ?_ | refine wq_iinc rfl ?_ | refine wq_goto ?_ | refine wq_k rfl ?_ | refine wq_b rfl rfl ?_ | refine wq_getf (by assumption) rfl ?_ | refine wq_alen (by assumption) rfl ?_)
        refine wf rfl (wq_cv rfl rfl rfl p1 (hka.mono ?_))
        rintro v M1 ⟨rfl, rfl⟩
        refine wf rfl (wq_ne ⟨by omega, by omega⟩ ⟨by omega, by omega⟩ (fun c4 => ?_) (fun c4 => ?_))
        · exact hY (fun z => c4 z.2)
        · repeat' (first | (refine Wp.sub (ih _ _ _ ?_) ⟨rfl, rfl, rfl, rfl, trivial⟩ rfl) | (refine wf rfl ?_; first | refine wq_iadd ?_ | refine wq_isub ?_ | refine wq_imul ?_ | refine wq_iinc rfl ?_ | refine wq_goto ?_ | refine wq_k rfl ?_ | refine wq_b rfl rfl ?_ | refine wq_getf (by assumption) rfl ?_ | refine wq_alen (by assumption) rfl ?_ | fail | (refine wq_eq ⟨by omega, by omega⟩ ⟨by omega, by omega⟩ (fun _ => ?_) (fun _ => ?_) <;> try (exfalso; omega)) | (refine wq_ne ⟨by omega, by omega⟩ ⟨by omega, by omega⟩ (fun _ => ?_) (fun _ => ?_) <;> try (exfalso; omega)) | (refine wq_lt ⟨by omega, by omega⟩ ⟨by omega, by omega⟩ (fun _ => ?_) (fun _ => ?_) <;> try (exfalso; omega)) | (refine wq_ge ⟨by omega, by omega⟩ ⟨by omega, by omega⟩ (fun _ => ?_) (fun _ => ?_) <;> try (exfalso; omega)) | (refine wq_gt ⟨by omega, by omega⟩ ⟨by omega, by omega⟩ (fun _ => ?_) (fun _ => ?_) <;> try (exfalso; omega)) | (refine wq_le ⟨by omega, by omega⟩ ⟨by omega, by omega⟩ (fun _ => ?_) (fun _ => ?_) <;> try (exfalso; omega)) | (refine wq_ifeq ⟨by omega, by omega⟩ (fun _ => ?_) (fun _ => ?_) <;> try (exfalso; omega)) | (refine wq_ifne ⟨by omega, by omega⟩ (fun _ => ?_) (fun _ => ?_) <;> try (exfalso; omega)) | (refine wq_iflt ⟨by omega, by omega⟩ (fun _ => ?_) (fun _ => ?_) <;> try (exfalso; omega)) | (refine wq_ifge ⟨by omega, by omega⟩ (fun _ => ?_) (fun _ => ?_) <;> try (exfalso; omega)) | (refine wq_ifgt ⟨by omega, by omega⟩ (fun _ => ?_) (fun _ => ?_) <;> try (exfalso; omega)) | (refine wq_ifle ⟨by omega, by omega⟩ (fun _ => ?_) (fun _ => ?_) <;> try (exfalso; omega)) | refine wq_r rfl rfl rfl rfl rfl rfl ?_))
          refine ⟨by omega, by omega, by omega, Or.inl rfl, fun z => by omega, i6, u1, i7, fun j j0 j1 => ?_⟩
          rw [← i8 j j0 j1, hc1, nxp_ov hb h1p hp c4]
    · repeat (refine wf rfl ?_; first | refine wq_iadd ?_ | refine wq_isub ?_ | refine wq_imul ?_ | refine wq_iinc rfl ?_ | refine wq_goto ?_ | refine wq_k rfl ?_ | refine wq_b rfl rfl ?_ | refine wq_getf (by assumption) rfl ?_ | refine wq_alen (by assumption) rfl ?_)
      refine wf rfl (wq_cv rfl rfl rfl r1 (hsz.mono ?_))
      rintro v M1 ⟨rfl, rfl⟩
      refine wf rfl (wq_ge ⟨by omega, by omega⟩ ⟨by omega, by omega⟩ (fun c2 => ?_) (fun c2 => by exfalso; omega))
      repeat' (refine wf rfl ?_; first | refine wq_iadd ?_ | refine wq_isub ?_ | refine wq_imul ?_ | refine wq_iinc rfl ?_ | refine wq_goto ?_ | refine wq_k rfl ?_ | refine wq_b rfl rfl ?_ | refine wq_getf (by assumption) rfl ?_ | refine wq_alen (by assumption) rfl ?_ | (refine wq_eq ⟨by omega, by omega⟩ ⟨by omega, by omega⟩ (fun _ => ?_) (fun _ => ?_) <;> try (exfalso; omega)) | (refine wq_ne ⟨by omega, by omega⟩ ⟨by omega, by omega⟩ (fun _ => ?_) (fun _ => ?_) <;> try (exfalso; omega)) | (refine wq_lt ⟨by omega, by omega⟩ ⟨by omega, by omega⟩ (fun _ => ?_) (fun _ => ?_) <;> try (exfalso; omega)) | (refine wq_ge ⟨by omega, by omega⟩ ⟨by omega, by omega⟩ (fun _ => ?_) (fun _ => ?_) <;> try (exfalso; omega)) | (refine wq_gt ⟨by omega, by omega⟩ ⟨by omega, by omega⟩ (fun _ => ?_) (fun _ => ?_) <;> try (exfalso; omega)) | (refine wq_le ⟨by omega, by omega⟩ ⟨by omega, by omega⟩ (fun _ => ?_) (fun _ => ?_) <;> try (exfalso; omega)) | (refine wq_ifeq ⟨by omega, by omega⟩ (fun _ => ?_) (fun _ => ?_) <;> try (exfalso; omega)) | (refine wq_ifne ⟨by omega, by omega⟩ (fun _ => ?_) (fun _ => ?_) <;> try (exfalso; omega)) | (refine wq_iflt ⟨by omega, by omega⟩ (fun _ => ?_) (fun _ => ?_) <;> try (exfalso; omega)) | (refine wq_ifge ⟨by omega, by omega⟩ (fun _ => ?_) (fun _ => ?_) <;> try (exfalso; omega)) | (refine wq_ifgt ⟨by omega, by omega⟩ (fun _ => ?_) (fun _ => ?_) <;> try (exfalso; omega)) | (refine wq_ifle ⟨by omega, by omega⟩ (fun _ => ?_) (fun _ => ?_) <;> try (exfalso; omega)) | refine wq_r rfl rfl rfl rfl rfl rfl ?_)
      refine ⟨rfl, i6, u1, i7, fun j j0 j1 => ?_⟩
      have hj := i8 j j0 j1
      have hz : cnt2 (rat xs j) (rat xs (j + 1)) (xs.drop (nxp xs c p (rat xs j) (rat xs (j + 1))).toNat) = 0 := by
        have hge : xs.length ≤ (nxp xs c p (rat xs j) (rat xs (j + 1))).toNat + 1 := by
          unfold nxp
          split <;> omega
        by_cases hg : (nxp xs c p (rat xs j) (rat xs (j + 1))).toNat < xs.length
        · rw [drop1 hg, List.drop_eq_nil_of_le (by omega), cnt2]
          simp
        · rw [List.drop_eq_nil_of_le (by omega), cnt2]
          simp
      rw [hz] at hj
      omega
theorem lp_zero (h : Pz M q u bf bs bt) (hr : Rw M a xs) (hb : SB xs) (ha : a ≠ q + 1 ∧ a + 1 ≠ q + 1) (n : Nat) : ∀ (k : Int) (M1 : PM), (0 ≤ k ∧ k ≤ xs.length ∧ xs.length - k < n ∧ Fr (fun z => z = q + 1) M M1 ∧ ∃ u1, Pz M1 q u1 bf bs bt ∧ ∀ j : Int, 0 ≤ j → j + 1 < xs.length → j < k → u1 (key xs j).toNat = 0) →
    Wp k_X3_countAll (2, [(0, .ref q), (1, .ref a), (2, .int (I k))], [], M1) (cntPost M q bf bs bt xs) := by
  have hl := hr.len
  induction n with
  | zero => intro k M1 hi; exfalso; omega
  | succ n ih =>
    intro k M1 hi
    obtain ⟨i1, i2, i3, i4, u1, i5, i6⟩ := hi
    have hr1 := hr.fr i4 ha.1 ha.2
    have hsz := c_Row_size hr1
    obtain ⟨p1, p2⟩ := id i5
    obtain ⟨gg, r1, r2, r3, r4⟩ := id hr1
    repeat (refine wf rfl ?_; first | refine wq_iadd ?_ | refine wq_isub ?_ | refine wq_imul ?_ | refine wq_iinc rfl ?_ | refine wq_goto ?_ | refine wq_k rfl ?_ | refine wq_b rfl rfl ?_ | refine wq_getf (by assumption) rfl ?_ | refine wq_alen (by assumption) rfl ?_)
    refine wf rfl (wq_cv rfl rfl rfl r1 (hsz.mono ?_))
    rintro v M1 ⟨rfl, rfl⟩
    refine wf rfl (wq_ge ⟨by omega, by omega⟩ ⟨by omega, by omega⟩ (fun c2 => ?_) (fun c2 => ?_))
    · have hc := lp_cnt (M := M) (q := q) (bf := bf) (bs := bs) (bt := bt) hr hb ha (xs.length + 1)
      repeat' (first | (refine Wp.sub (hc _ _ _ ?_) ⟨rfl, rfl, rfl, rfl, trivial⟩ rfl) | (refine wf rfl ?_; first | refine wq_iadd ?_ | refine wq_isub ?_ | refine wq_imul ?_ | refine wq_iinc rfl ?_ | refine wq_goto ?_ | refine wq_k rfl ?_ | refine wq_b rfl rfl ?_ | refine wq_getf (by assumption) rfl ?_ | refine wq_alen (by assumption) rfl ?_ | fail | (refine wq_eq ⟨by omega, by omega⟩ ⟨by omega, by omega⟩ (fun _ => ?_) (fun _ => ?_) <;> try (exfalso; omega)) | (refine wq_ne ⟨by omega, by omega⟩ ⟨by omega, by omega⟩ (fun _ => ?_) (fun _ => ?_) <;> try (exfalso; omega)) | (refine wq_lt ⟨by omega, by omega⟩ ⟨by omega, by omega⟩ (fun _ => ?_) (fun _ => ?_) <;> try (exfalso; omega)) | (refine wq_ge ⟨by omega, by omega⟩ ⟨by omega, by omega⟩ (fun _ => ?_) (fun _ => ?_) <;> try (exfalso; omega)) | (refine wq_gt ⟨by omega, by omega⟩ ⟨by omega, by omega⟩ (fun _ => ?_) (fun _ => ?_) <;> try (exfalso; omega)) | (refine wq_le ⟨by omega, by omega⟩ ⟨by omega, by omega⟩ (fun _ => ?_) (fun _ => ?_) <;> try (exfalso; omega)) | (refine wq_ifeq ⟨by omega, by omega⟩ (fun _ => ?_) (fun _ => ?_) <;> try (exfalso; omega)) | (refine wq_ifne ⟨by omega, by omega⟩ (fun _ => ?_) (fun _ => ?_) <;> try (exfalso; omega)) | (refine wq_iflt ⟨by omega, by omega⟩ (fun _ => ?_) (fun _ => ?_) <;> try (exfalso; omega)) | (refine wq_ifge ⟨by omega, by omega⟩ (fun _ => ?_) (fun _ => ?_) <;> try (exfalso; omega)) | (refine wq_ifgt ⟨by omega, by omega⟩ (fun _ => ?_) (fun _ => ?_) <;> try (exfalso; omega)) | (refine wq_ifle ⟨by omega, by omega⟩ (fun _ => ?_) (fun _ => ?_) <;> try (exfalso; omega)) | refine wq_r rfl rfl rfl rfl rfl rfl ?_))
      refine ⟨by omega, by omega, by omega, Or.inl rfl, fun z => by omega, i4, u1, i5, fun j j0 j1 => ?_⟩
      rw [i6 j j0 j1 (by omega)]
      unfold nxp
      rw [if_neg (by omega)]
      simp
    · have kb := key_bd hb i1 c2
      have hka := c_Pairs_keyAt i5 hr1 hb i1 c2
      repeat (refine wf rfl ?_; first | refine wq_iadd ?_ | refine wq_isub ?_ | refine wq_imul ?_ | refine wq_iinc rfl ?_ | refine wq_goto ?_ | refine wq_k rfl ?_ | refine wq_b rfl rfl ?_ | refine wq_getf (by assumption) rfl ?_ | refine wq_alen (by assumption) rfl ?_)
      refine wf rfl (wq_cv rfl rfl rfl p1 (hka.mono ?_))
      rintro v M1 ⟨rfl, rfl⟩
      repeat (refine wf rfl ?_; first | refine wq_iadd ?_ | refine wq_isub ?_ | refine wq_imul ?_ | refine wq_iinc rfl ?_ | refine wq_goto ?_ | refine wq_k rfl ?_ | refine wq_b rfl rfl ?_ | refine wq_getf (by assumption) rfl ?_ | refine wq_alen (by assumption) rfl ?_)
      refine wf rfl (wq_iast p2 rfl ⟨by omega, by omega⟩ (by omega) (by omega) (fun M2 e2 f2 => ?_))
      repeat' (first | (refine Wp.sub (ih _ _ ?_) ⟨rfl, rfl, rfl, trivial⟩ rfl) | (refine wf rfl ?_; first | refine wq_iadd ?_ | refine wq_isub ?_ | refine wq_imul ?_ | refine wq_iinc rfl ?_ | refine wq_goto ?_ | refine wq_k rfl ?_ | refine wq_b rfl rfl ?_ | refine wq_getf (by assumption) rfl ?_ | refine wq_alen (by assumption) rfl ?_ | fail | (refine wq_eq ⟨by omega, by omega⟩ ⟨by omega, by omega⟩ (fun _ => ?_) (fun _ => ?_) <;> try (exfalso; omega)) | (refine wq_ne ⟨by omega, by omega⟩ ⟨by omega, by omega⟩ (fun _ => ?_) (fun _ => ?_) <;> try (exfalso; omega)) | (refine wq_lt ⟨by omega, by omega⟩ ⟨by omega, by omega⟩ (fun _ => ?_) (fun _ => ?_) <;> try (exfalso; omega)) | (refine wq_ge ⟨by omega, by omega⟩ ⟨by omega, by omega⟩ (fun _ => ?_) (fun _ => ?_) <;> try (exfalso; omega)) | (refine wq_gt ⟨by omega, by omega⟩ ⟨by omega, by omega⟩ (fun _ => ?_) (fun _ => ?_) <;> try (exfalso; omega)) | (refine wq_le ⟨by omega, by omega⟩ ⟨by omega, by omega⟩ (fun _ => ?_) (fun _ => ?_) <;> try (exfalso; omega)) | (refine wq_ifeq ⟨by omega, by omega⟩ (fun _ => ?_) (fun _ => ?_) <;> try (exfalso; omega)) | (refine wq_ifne ⟨by omega, by omega⟩ (fun _ => ?_) (fun _ => ?_) <;> try (exfalso; omega)) | (refine wq_iflt ⟨by omega, by omega⟩ (fun _ => ?_) (fun _ => ?_) <;> try (exfalso; omega)) | (refine wq_ifge ⟨by omega, by omega⟩ (fun _ => ?_) (fun _ => ?_) <;> try (exfalso; omega)) | (refine wq_ifgt ⟨by omega, by omega⟩ (fun _ => ?_) (fun _ => ?_) <;> try (exfalso; omega)) | (refine wq_ifle ⟨by omega, by omega⟩ (fun _ => ?_) (fun _ => ?_) <;> try (exfalso; omega)) | refine wq_r rfl rfl rfl rfl rfl rfl ?_))
      refine ⟨by omega, by omega, by omega, i4.tr f2, _, ⟨f2.at (by omega) p1, e2⟩, fun j j0 j1 j2 => ?_⟩
      have kj := key_bd hb j0 j1
      by_cases he : key xs j = key xs k
      · rw [he, upz_at]
      · rw [upz_ne _ _ (by omega)]
        refine i6 j j0 j1 ?_
        by_cases hjk : j = k
        · exact absurd (by rw [hjk]) he
        · omega
theorem c_Pairs_countAll (h : Pz M q u bf bs bt) (hr : Rw M a xs) (hb : SB xs) (ha : a ≠ q + 1 ∧ a + 1 ≠ q + 1) : Wm 51 [.ref q, .ref a] M (cntPost M q bf bs bt xs) := by
  refine wm_in (lv := _) rfl rfl rfl ?_
  repeat' (first | (refine Wp.sub (lp_zero h hr hb ha (xs.length + 1) _ _ ?_) ⟨rfl, rfl, rfl, trivial⟩ rfl) | (refine wf rfl ?_; first | refine wq_iadd ?_ | refine wq_isub ?_ | refine wq_imul ?_ | refine wq_iinc rfl ?_ | refine wq_goto ?_ | refine wq_k rfl ?_ | refine wq_b rfl rfl ?_ | refine wq_getf (by assumption) rfl ?_ | refine wq_alen (by assumption) rfl ?_ | fail | (refine wq_eq ⟨by omega, by omega⟩ ⟨by omega, by omega⟩ (fun _ => ?_) (fun _ => ?_) <;> try (exfalso; omega)) | (refine wq_ne ⟨by omega, by omega⟩ ⟨by omega, by omega⟩ (fun _ => ?_) (fun _ => ?_) <;> try (exfalso; omega)) | (refine wq_lt ⟨by omega, by omega⟩ ⟨by omega, by omega⟩ (fun _ => ?_) (fun _ => ?_) <;> try (exfalso; omega)) | (refine wq_ge ⟨by omega, by omega⟩ ⟨by omega, by omega⟩ (fun _ => ?_) (fun _ => ?_) <;> try (exfalso; omega)) | (refine wq_gt ⟨by omega, by omega⟩ ⟨by omega, by omega⟩ (fun _ => ?_) (fun _ => ?_) <;> try (exfalso; omega)) | (refine wq_le ⟨by omega, by omega⟩ ⟨by omega, by omega⟩ (fun _ => ?_) (fun _ => ?_) <;> try (exfalso; omega)) | (refine wq_ifeq ⟨by omega, by omega⟩ (fun _ => ?_) (fun _ => ?_) <;> try (exfalso; omega)) | (refine wq_ifne ⟨by omega, by omega⟩ (fun _ => ?_) (fun _ => ?_) <;> try (exfalso; omega)) | (refine wq_iflt ⟨by omega, by omega⟩ (fun _ => ?_) (fun _ => ?_) <;> try (exfalso; omega)) | (refine wq_ifge ⟨by omega, by omega⟩ (fun _ => ?_) (fun _ => ?_) <;> try (exfalso; omega)) | (refine wq_ifgt ⟨by omega, by omega⟩ (fun _ => ?_) (fun _ => ?_) <;> try (exfalso; omega)) | (refine wq_ifle ⟨by omega, by omega⟩ (fun _ => ?_) (fun _ => ?_) <;> try (exfalso; omega)) | refine wq_r rfl rfl rfl rfl rfl rfl ?_))
  exact ⟨by omega, by omega, by omega, Fr.rf, u, h, fun j j0 j1 j2 => by omega⟩
end PR2
end
section
/-- the best pair of the first places: the first with the most -/
def bst (xs : List Int) (z : Int × Int × Int) : Nat → Int × Int × Int
  | 0 => z
  | n + 1 => if (bst xs z n).2.2 < (cnt2 (rat xs n) (rat xs (n + 1 : Nat)) xs : Int) then (rat xs n, rat xs (n + 1 : Nat), (cnt2 (rat xs n) (rat xs (n + 1 : Nat)) xs : Int)) else bst xs z n
theorem cnt2_len (f s : Int) : ∀ (n : Nat) (xs : List Int), xs.length ≤ n → cnt2 f s xs ≤ xs.length
  | 0, [], _ => by simp [cnt2]
  | 0, x :: r, h => by simp at h
  | n + 1, [], _ => by simp [cnt2]
  | n + 1, [x], _ => by simp [cnt2]
  | n + 1, x :: y :: r, h => by
    rw [List.length_cons, List.length_cons] at h
    rw [cnt2, List.length_cons, List.length_cons]
    have h1 := cnt2_len f s n r (by omega)
    have h2 := cnt2_len f s n (y :: r) (by rw [List.length_cons]; omega)
    rw [List.length_cons] at h2
    split <;> omega
theorem bst_bd {xs : List Int} {f s : Int} : ∀ n : Nat, 0 ≤ (bst xs (f, s, 0) n).2.2 ∧ (bst xs (f, s, 0) n).2.2 ≤ xs.length
  | 0 => by
    rw [bst]
    show (0 : Int) ≤ 0 ∧ (0 : Int) ≤ xs.length
    omega
  | n + 1 => by
    have ih := bst_bd (xs := xs) (f := f) (s := s) n
    have hc := cnt2_len (rat xs n) (rat xs (n + 1 : Nat)) xs.length xs (Nat.le_refl _)
    rw [bst]
    split
    · dsimp only
      omega
    · exact ih
theorem bst_z {xs : List Int} {f s f' s' : Int} : ∀ n : Nat, (bst xs (f, s, 0) n).2.2 = (bst xs (f', s', 0) n).2.2 ∧ (0 < (bst xs (f, s, 0) n).2.2 → bst xs (f, s, 0) n = bst xs (f', s', 0) n)
  | 0 => by
    rw [bst, bst]
    exact ⟨rfl, fun z => absurd z (Int.lt_irrefl 0)⟩
  | n + 1 => by
    have ih := bst_z (xs := xs) (f := f) (s := s) (f' := f') (s' := s') n
    rw [bst, bst, ← ih.1]
    split
    · exact ⟨rfl, fun _ => rfl⟩
    · exact ih
section PR3
variable {M : PM} {q a : Nat} {u : Nat → Int} {bf bs bt : Int} {xs : List Int}
def bstAll (xs : List Int) (f s : Int) : Int × Int × Int := bst xs (f, s, 0) (xs.length - 1)
abbrev findPost (M : PM) (q : Nat) (bf bs : Int) (xs : List Int) : Option Value → PM → Prop := fun v M' => v = some (.int (I (if 0 < (bstAll xs bf bs).2.2 then 1 else 0))) ∧ Fr (fun z => z = q ∨ z = q + 1) M M' ∧ ∃ u', Pz M' q u' (bstAll xs bf bs).1 (bstAll xs bf bs).2.1 (bstAll xs bf bs).2.2
theorem lp_find (hr : Rw M a xs) (hb : SB xs) (ha : (a ≠ q ∧ a + 1 ≠ q) ∧ a ≠ q + 1 ∧ a + 1 ≠ q + 1) (n : Nat) : ∀ (k : Int) (M1 : PM), (0 ≤ k ∧ (k = 0 ∨ k + 1 ≤ xs.length) ∧ xs.length - k < n ∧ Fr (fun z => z = q ∨ z = q + 1) M M1 ∧ ∃ u1, Pz M1 q u1 (bst xs (bf, bs, 0) k.toNat).1 (bst xs (bf, bs, 0) k.toNat).2.1 (bst xs (bf, bs, 0) k.toNat).2.2 ∧ ∀ j : Int, 0 ≤ j → j + 1 < xs.length → u1 (key xs j).toNat = (cnt2 (rat xs j) (rat xs (j + 1)) xs : Int)) →
    Wp k_X3_findBest (12, [(0, .ref q), (1, .ref a), (2, .int (I k))], [], M1) (findPost M q bf bs xs) := by
  have hl := hr.len
  induction n with
  | zero => intro k M1 hi; exfalso; omega
  | succ n ih =>
    intro k M1 hi
    obtain ⟨i1, i2, i3, i4, u1, i5, i6⟩ := hi
    have hr1 := hr.fr i4 (by omega) (by omega)
    have hsz := c_Row_size hr1
    have bb := bst_bd (xs := xs) (f := bf) (s := bs) k.toNat
    obtain ⟨p1, p2⟩ := id i5
    obtain ⟨gg, r1, r2, r3, r4⟩ := id hr1
    repeat (refine wf rfl ?_; first | refine wq_iadd ?_ | refine wq_isub ?_ | refine wq_imul ?_ | refine wq_iinc rfl ?_ | refine wq_goto ?_ | refine wq_k rfl ?_ | refine wq_b rfl rfl ?_ | refine wq_getf (by assumption) rfl ?_ | refine wq_alen (by assumption) rfl ?_)
    refine wf rfl (wq_cv rfl rfl rfl r1 (hsz.mono ?_))
    rintro v M1 ⟨rfl, rfl⟩
    refine wf rfl (wq_ge ⟨by omega, by omega⟩ ⟨by omega, by omega⟩ (fun c2 => ?_) (fun c2 => ?_))
    · have e : k.toNat = xs.length - 1 := by omega
      have eB : bst xs (bf, bs, 0) k.toNat = bstAll xs bf bs := by rw [e]; rfl
      rw [eB] at p1 i5 bb
      repeat' (refine wf rfl ?_; first | refine wq_iadd ?_ | refine wq_isub ?_ | refine wq_imul ?_ | refine wq_iinc rfl ?_ | refine wq_goto ?_ | refine wq_k rfl ?_ | refine wq_b rfl rfl ?_ | refine wq_getf (by assumption) rfl ?_ | refine wq_alen (by assumption) rfl ?_ | (refine wq_eq ⟨by omega, by omega⟩ ⟨by omega, by omega⟩ (fun _ => ?_) (fun _ => ?_) <;> try (exfalso; omega)) | (refine wq_ne ⟨by omega, by omega⟩ ⟨by omega, by omega⟩ (fun _ => ?_) (fun _ => ?_) <;> try (exfalso; omega)) | (refine wq_lt ⟨by omega, by omega⟩ ⟨by omega, by omega⟩ (fun _ => ?_) (fun _ => ?_) <;> try (exfalso; omega)) | (refine wq_ge ⟨by omega, by omega⟩ ⟨by omega, by omega⟩ (fun _ => ?_) (fun _ => ?_) <;> try (exfalso; omega)) | (refine wq_gt ⟨by omega, by omega⟩ ⟨by omega, by omega⟩ (fun _ => ?_) (fun _ => ?_) <;> try (exfalso; omega)) | (refine wq_le ⟨by omega, by omega⟩ ⟨by omega, by omega⟩ (fun _ => ?_) (fun _ => ?_) <;> try (exfalso; omega)) | (refine wq_ifeq ⟨by omega, by omega⟩ (fun _ => ?_) (fun _ => ?_) <;> try (exfalso; omega)) | (refine wq_ifne ⟨by omega, by omega⟩ (fun _ => ?_) (fun _ => ?_) <;> try (exfalso; omega)) | (refine wq_iflt ⟨by omega, by omega⟩ (fun _ => ?_) (fun _ => ?_) <;> try (exfalso; omega)) | (refine wq_ifge ⟨by omega, by omega⟩ (fun _ => ?_) (fun _ => ?_) <;> try (exfalso; omega)) | (refine wq_ifgt ⟨by omega, by omega⟩ (fun _ => ?_) (fun _ => ?_) <;> try (exfalso; omega)) | (refine wq_ifle ⟨by omega, by omega⟩ (fun _ => ?_) (fun _ => ?_) <;> try (exfalso; omega)) | refine wq_r rfl rfl rfl rfl rfl rfl ?_)
      · exact ⟨by rw [if_neg (by omega)], i4, u1, i5⟩
      · exact ⟨by rw [if_pos (by omega)], i4, u1, i5⟩
    · have kb := key_bd hb i1 c2
      have hka := c_Pairs_keyAt i5 hr1 hb i1 c2
      have hu := i6 k i1 c2
      have hcl := cnt2_len (rat xs k) (rat xs (k + 1)) xs.length xs (Nat.le_refl _)
      have e1 : ((k.toNat : Nat) : Int) = k := by omega
      have e2 : (((k.toNat + 1 : Nat) : Nat) : Int) = k + 1 := by omega
      have hst : bst xs (bf, bs, 0) (k + 1).toNat = if (bst xs (bf, bs, 0) k.toNat).2.2 < (cnt2 (rat xs k) (rat xs (k + 1)) xs : Int) then (rat xs k, rat xs (k + 1), (cnt2 (rat xs k) (rat xs (k + 1)) xs : Int)) else bst xs (bf, bs, 0) k.toNat := by
        rw [show (k + 1).toNat = k.toNat + 1 by omega, bst, e1, e2]
      repeat (refine wf rfl ?_; first | refine wq_iadd ?_ | refine wq_isub ?_ | refine wq_imul ?_ | refine wq_iinc rfl ?_ | refine wq_goto ?_ | refine wq_k rfl ?_ | refine wq_b rfl rfl ?_ | refine wq_getf (by assumption) rfl ?_ | refine wq_alen (by assumption) rfl ?_)
      refine wf rfl (wq_cv rfl rfl rfl p1 (hka.mono ?_))
      rintro v M1 ⟨rfl, rfl⟩
      repeat (refine wf rfl ?_; first | refine wq_iadd ?_ | refine wq_isub ?_ | refine wq_imul ?_ | refine wq_iinc rfl ?_ | refine wq_goto ?_ | refine wq_k rfl ?_ | refine wq_b rfl rfl ?_ | refine wq_getf (by assumption) rfl ?_ | refine wq_alen (by assumption) rfl ?_)
      refine wf rfl (wq_iald p2 ⟨by omega, by omega⟩ (by omega) (by omega) ?_)
      rw [hu]
      repeat (refine wf rfl ?_; first | refine wq_iadd ?_ | refine wq_isub ?_ | refine wq_imul ?_ | refine wq_iinc rfl ?_ | refine wq_goto ?_ | refine wq_k rfl ?_ | refine wq_b rfl rfl ?_ | refine wq_getf (by assumption) rfl ?_ | refine wq_alen (by assumption) rfl ?_)
      refine wf rfl (wq_le ⟨by omega, by omega⟩ ⟨by omega, by omega⟩ (fun c3 => ?_) (fun c3 => ?_))
      · rw [if_neg (by omega)] at hst
        repeat' (first | (refine Wp.sub (ih _ _ ?_) ⟨rfl, rfl, rfl, trivial⟩ rfl) | (refine wf rfl ?_; first | refine wq_iadd ?_ | refine wq_isub ?_ | refine wq_imul ?_ | refine wq_iinc rfl ?_ | refine wq_goto ?_ | refine wq_k rfl ?_ | refine wq_b rfl rfl ?_ | refine wq_getf (by assumption) rfl ?_ | refine wq_alen (by assumption) rfl ?_ | fail | (refine wq_eq ⟨by omega, by omega⟩ ⟨by omega, by omega⟩ (fun _ => ?_) (fun _ => ?_) <;> try (exfalso; omega)) | (refine wq_ne ⟨by omega, by omega⟩ ⟨by omega, by omega⟩ (fun _ => ?_) (fun _ => ?_) <;> try (exfalso; omega)) | (refine wq_lt ⟨by omega, by omega⟩ ⟨by omega, by omega⟩ (fun _ => ?_) (fun _ => ?_) <;> try (exfalso; omega)) | (refine wq_ge ⟨by omega, by omega⟩ ⟨by omega, by omega⟩ (fun _ => ?_) (fun _ => ?_) <;> try (exfalso; omega)) | (refine wq_gt ⟨by omega, by omega⟩ ⟨by omega, by omega⟩ (fun _ => ?_) (fun _ => ?_) <;> try (exfalso; omega)) | (refine wq_le ⟨by omega, by omega⟩ ⟨by omega, by omega⟩ (fun _ => ?_) (fun _ => ?_) <;> try (exfalso; omega)) | (refine wq_ifeq ⟨by omega, by omega⟩ (fun _ => ?_) (fun _ => ?_) <;> try (exfalso; omega)) | (refine wq_ifne ⟨by omega, by omega⟩ (fun _ => ?_) (fun _ => ?_) <;> try (exfalso; omega)) | (refine wq_iflt ⟨by omega, by omega⟩ (fun _ => ?_) (fun _ => ?_) <;> try (exfalso; omega)) | (refine wq_ifge ⟨by omega, by omega⟩ (fun _ => ?_) (fun _ => ?_) <;> try (exfalso; omega)) | (refine wq_ifgt ⟨by omega, by omega⟩ (fun _ => ?_) (fun _ => ?_) <;> try (exfalso; omega)) | (refine wq_ifle ⟨by omega, by omega⟩ (fun _ => ?_) (fun _ => ?_) <;> try (exfalso; omega)) | refine wq_r rfl rfl rfl rfl rfl rfl ?_))
        refine ⟨by omega, by omega, by omega, i4, u1, ?_, i6⟩
        rw [hst]
        exact i5
      · rw [if_pos (by omega)] at hst
        have hat := c_Row_at (p := k) ⟨by omega, by omega⟩ hr1
        repeat (refine wf rfl ?_; first | refine wq_iadd ?_ | refine wq_isub ?_ | refine wq_imul ?_ | refine wq_iinc rfl ?_ | refine wq_goto ?_ | refine wq_k rfl ?_ | refine wq_b rfl rfl ?_ | refine wq_getf (by assumption) rfl ?_ | refine wq_alen (by assumption) rfl ?_)
        refine wf rfl (wq_cv rfl rfl rfl r1 (hat.mono ?_))
        rintro v M1 ⟨rfl, rfl⟩
        refine wf rfl (wq_putf p1 rfl (fun M2 g2 f2 => ?_))
        have hr2 := hr1.fr f2 (by omega) (by omega)
        have r5 := f2.at (by omega) r1
        have p3 := f2.at (by omega) p2
        have hat2 := c_Row_at (p := k + 1) ⟨by omega, by omega⟩ hr2
        repeat (refine wf rfl ?_; first | refine wq_iadd ?_ | refine wq_isub ?_ | refine wq_imul ?_ | refine wq_iinc rfl ?_ | refine wq_goto ?_ | refine wq_k rfl ?_ | refine wq_b rfl rfl ?_ | refine wq_getf (by assumption) rfl ?_ | refine wq_alen (by assumption) rfl ?_)
        refine wf rfl (wq_cv rfl rfl rfl r5 (hat2.mono ?_))
        rintro v M2 ⟨rfl, rfl⟩
        refine wf rfl (wq_putf g2 rfl (fun M3 g3 f3 => ?_))
        have p4 := f3.at (by omega) p3
        repeat (refine wf rfl ?_; first | refine wq_iadd ?_ | refine wq_isub ?_ | refine wq_imul ?_ | refine wq_iinc rfl ?_ | refine wq_goto ?_ | refine wq_k rfl ?_ | refine wq_b rfl rfl ?_ | refine wq_getf (by assumption) rfl ?_ | refine wq_alen (by assumption) rfl ?_)
        refine wf rfl (wq_iald p4 ⟨by omega, by omega⟩ (by omega) (by omega) ?_)
        rw [hu]
        refine wf rfl (wq_putf g3 rfl (fun M4 g4 f4 => ?_))
        have p5 := f4.at (by omega) p4
        repeat' (first | (refine Wp.sub (ih _ _ ?_) ⟨rfl, rfl, rfl, trivial⟩ rfl) | (refine wf rfl ?_; first | refine wq_iadd ?_ | refine wq_isub ?_ | refine wq_imul ?_ | refine wq_iinc rfl ?_ | refine wq_goto ?_ | refine wq_k rfl ?_ | refine wq_b rfl rfl ?_ | refine wq_getf (by assumption) rfl ?_ | refine wq_alen (by assumption) rfl ?_ | fail | (refine wq_eq ⟨by omega, by omega⟩ ⟨by omega, by omega⟩ (fun _ => ?_) (fun _ => ?_) <;> try (exfalso; omega)) | (refine wq_ne ⟨by omega, by omega⟩ ⟨by omega, by omega⟩ (fun _ => ?_) (fun _ => ?_) <;> try (exfalso; omega)) | (refine wq_lt ⟨by omega, by omega⟩ ⟨by omega, by omega⟩ (fun _ => ?_) (fun _ => ?_) <;> try (exfalso; omega)) | (refine wq_ge ⟨by omega, by omega⟩ ⟨by omega, by omega⟩ (fun _ => ?_) (fun _ => ?_) <;> try (exfalso; omega)) | (refine wq_gt ⟨by omega, by omega⟩ ⟨by omega, by omega⟩ (fun _ => ?_) (fun _ => ?_) <;> try (exfalso; omega)) | (refine wq_le ⟨by omega, by omega⟩ ⟨by omega, by omega⟩ (fun _ => ?_) (fun _ => ?_) <;> try (exfalso; omega)) | (refine wq_ifeq ⟨by omega, by omega⟩ (fun _ => ?_) (fun _ => ?_) <;> try (exfalso; omega)) | (refine wq_ifne ⟨by omega, by omega⟩ (fun _ => ?_) (fun _ => ?_) <;> try (exfalso; omega)) | (refine wq_iflt ⟨by omega, by omega⟩ (fun _ => ?_) (fun _ => ?_) <;> try (exfalso; omega)) | (refine wq_ifge ⟨by omega, by omega⟩ (fun _ => ?_) (fun _ => ?_) <;> try (exfalso; omega)) | (refine wq_ifgt ⟨by omega, by omega⟩ (fun _ => ?_) (fun _ => ?_) <;> try (exfalso; omega)) | (refine wq_ifle ⟨by omega, by omega⟩ (fun _ => ?_) (fun _ => ?_) <;> try (exfalso; omega)) | refine wq_r rfl rfl rfl rfl rfl rfl ?_))
        refine ⟨by omega, by omega, by omega, i4.tr (((f2.tr f3).tr f4).mono (fun z hz => Or.inl hz)), u1, ?_, i6⟩
        rw [hst]
        exact ⟨g4, p5⟩
theorem c_Pairs_findBest (h : Pz M q u bf bs bt) (hr : Rw M a xs) (hb : SB xs) (ha : (a ≠ q ∧ a + 1 ≠ q) ∧ a ≠ q + 1 ∧ a + 1 ≠ q + 1) : Wm 50 [.ref q, .ref a] M (findPost M q bf bs xs) := by
  have hl := hr.len
  obtain ⟨p1, p2⟩ := id h
  refine wm_in (lv := _) rfl rfl rfl ?_
  repeat (refine wf rfl ?_; first | refine wq_iadd ?_ | refine wq_isub ?_ | refine wq_imul ?_ | refine wq_iinc rfl ?_ | refine wq_goto ?_ | refine wq_k rfl ?_ | refine wq_b rfl rfl ?_ | refine wq_getf (by assumption) rfl ?_ | refine wq_alen (by assumption) rfl ?_)
  refine wf rfl (wq_cv rfl rfl rfl p1 ((c_Pairs_countAll h hr hb ha.2).mono ?_))
  rintro v M1 ⟨rfl, f1, u1, ⟨g1, g2⟩, h1⟩
  repeat (refine wf rfl ?_; first | refine wq_iadd ?_ | refine wq_isub ?_ | refine wq_imul ?_ | refine wq_iinc rfl ?_ | refine wq_goto ?_ | refine wq_k rfl ?_ | refine wq_b rfl rfl ?_ | refine wq_getf (by assumption) rfl ?_ | refine wq_alen (by assumption) rfl ?_)
  refine wf rfl (wq_putf g1 rfl (fun M2 g3 f2 => ?_))
  have g4 := f2.at (by omega) g2
  repeat' (first | (refine Wp.sub (lp_find (bf := bf) (bs := bs) hr hb ha (xs.length + 1) _ _ ?_) ⟨rfl, rfl, rfl, trivial⟩ rfl) | (refine wf rfl ?_; first | refine wq_iadd ?_ | refine wq_isub ?_ | refine wq_imul ?_ | refine wq_iinc rfl ?_ | refine wq_goto ?_ | refine wq_k rfl ?_ | refine wq_b rfl rfl ?_ | refine wq_getf (by assumption) rfl ?_ | refine wq_alen (by assumption) rfl ?_ | fail | (refine wq_eq ⟨by omega, by omega⟩ ⟨by omega, by omega⟩ (fun _ => ?_) (fun _ => ?_) <;> try (exfalso; omega)) | (refine wq_ne ⟨by omega, by omega⟩ ⟨by omega, by omega⟩ (fun _ => ?_) (fun _ => ?_) <;> try (exfalso; omega)) | (refine wq_lt ⟨by omega, by omega⟩ ⟨by omega, by omega⟩ (fun _ => ?_) (fun _ => ?_) <;> try (exfalso; omega)) | (refine wq_ge ⟨by omega, by omega⟩ ⟨by omega, by omega⟩ (fun _ => ?_) (fun _ => ?_) <;> try (exfalso; omega)) | (refine wq_gt ⟨by omega, by omega⟩ ⟨by omega, by omega⟩ (fun _ => ?_) (fun _ => ?_) <;> try (exfalso; omega)) | (refine wq_le ⟨by omega, by omega⟩ ⟨by omega, by omega⟩ (fun _ => ?_) (fun _ => ?_) <;> try (exfalso; omega)) | (refine wq_ifeq ⟨by omega, by omega⟩ (fun _ => ?_) (fun _ => ?_) <;> try (exfalso; omega)) | (refine wq_ifne ⟨by omega, by omega⟩ (fun _ => ?_) (fun _ => ?_) <;> try (exfalso; omega)) | (refine wq_iflt ⟨by omega, by omega⟩ (fun _ => ?_) (fun _ => ?_) <;> try (exfalso; omega)) | (refine wq_ifge ⟨by omega, by omega⟩ (fun _ => ?_) (fun _ => ?_) <;> try (exfalso; omega)) | (refine wq_ifgt ⟨by omega, by omega⟩ (fun _ => ?_) (fun _ => ?_) <;> try (exfalso; omega)) | (refine wq_ifle ⟨by omega, by omega⟩ (fun _ => ?_) (fun _ => ?_) <;> try (exfalso; omega)) | refine wq_r rfl rfl rfl rfl rfl rfl ?_))
  exact ⟨by omega, by omega, by omega, (f1.mono (fun z hz => Or.inr hz)).tr (f2.mono (fun z hz => Or.inl hz)), u1, ⟨g3, g4⟩, h1⟩
end PR3
end
section
/-! Folding, on lists. -/
def foldB (G : GS) : Bool := decide (G.1.length < 26) && decide (1 < (bstAll G.2 0 0).2.2)
def foldG (G : GS) : GS := (G.1 ++ [[(bstAll G.2 0 0).1, (bstAll G.2 0 0).2.1]], fold2 (bstAll G.2 0 0).1 (bstAll G.2 0 0).2.1 (8 + (G.1.length : Int)) G.2)
def foldN : Nat → GS → GS × Nat
  | 0, G => (G, 0)
  | n + 1, G => if foldB G = true then ((foldN n (foldG G)).1, (foldN n (foldG G)).2 + 1) else (G, 0)
theorem foldG_len (G : GS) : (foldG G).1.length = G.1.length + 1 := by simp [foldG]
theorem xof_app1 {R : List (List Int)} {x : List Int} {k : Nat} (h : k < R.length) : xof (R ++ [x]) k = xof R k := by
  unfold xof
  rw [List.getD_eq_getElem?_getD, List.getD_eq_getElem?_getD, List.getElem?_append_left h]
theorem xof_app2 {R : List (List Int)} {x : List Int} : xof (R ++ [x]) R.length = x := by
  unfold xof
  rw [List.getD_eq_getElem?_getD, List.getElem?_append_right (Nat.le_refl _)]
  simp
theorem bst_mem {xs : List Int} {f s : Int} : ∀ n : Nat, n + 1 ≤ xs.length → 0 < (bst xs (f, s, 0) n).2.2 → (bst xs (f, s, 0) n).1 ∈ xs ∧ (bst xs (f, s, 0) n).2.1 ∈ xs
  | 0, _, h => by
    rw [bst] at h
    exact absurd h (Int.lt_irrefl 0)
  | n + 1, hn, h => by
    have ih := bst_mem (xs := xs) (f := f) (s := s) n (by omega)
    rw [bst] at h ⊢
    split
    · exact ⟨rat_mem (p := (n : Int)) (by omega) (by omega), rat_mem (p := ((n + 1 : Nat) : Int)) (by omega) (by omega)⟩
    · rename_i hc
      rw [if_neg hc] at h
      exact ih h
theorem bstAll_mem {xs : List Int} {f s : Int} (h : 0 < (bstAll xs f s).2.2) : (bstAll xs f s).1 ∈ xs ∧ (bstAll xs f s).2.1 ∈ xs := by
  unfold bstAll at h ⊢
  by_cases hl : xs.length = 0
  · rw [hl, Nat.zero_sub, bst] at h
    exact absurd h (Int.lt_irrefl 0)
  · exact bst_mem _ (by omega) h
theorem fold2_mem (f s c : Int) : ∀ (n : Nat) (xs : List Int), xs.length ≤ n → ∀ x ∈ fold2 f s c xs, x = c ∨ x ∈ xs
  | 0, [], _, x, hx => by simp [fold2] at hx
  | 0, y :: r, h, _, _ => by simp at h
  | n + 1, [], _, x, hx => by simp [fold2] at hx
  | n + 1, [y], _, x, hx => by
    simp [fold2] at hx
    exact Or.inr (by rw [hx]; exact List.mem_singleton.mpr rfl)
  | n + 1, y :: z :: r, h, x, hx => by
    rw [List.length_cons, List.length_cons] at h
    rw [fold2] at hx
    have h1 := fold2_mem f s c n r (by omega) x
    have h2 := fold2_mem f s c n (z :: r) (by rw [List.length_cons]; omega) x
    split at hx
    · rcases List.mem_cons.mp hx with e | e
      · exact Or.inl e
      · rcases h1 e with e | e
        · exact Or.inl e
        · exact Or.inr (List.mem_cons_of_mem _ (List.mem_cons_of_mem _ e))
    · rcases List.mem_cons.mp hx with e | e
      · exact Or.inr (List.mem_cons.mpr (Or.inl e))
      · rcases h2 e with e | e
        · exact Or.inl e
        · exact Or.inr (List.mem_cons_of_mem _ e)
theorem WFG.fold {G : GS} (h : WFG G) (hb : foldB G = true) : WFG (foldG G) := by
  obtain ⟨h1, h2, h3⟩ := h
  unfold foldB at hb
  rw [Bool.and_eq_true, decide_eq_true_eq, decide_eq_true_eq] at hb
  obtain ⟨m1, m2⟩ := bstAll_mem (xs := G.2) (f := 0) (s := 0) (by omega)
  have b1 := h2 _ m1
  have b2 := h2 _ m2
  have hl := foldG_len G
  refine ⟨?_, ?_, ?_⟩
  · rw [hl]
    intro k hk x hx
    by_cases he : k < G.1.length
    · unfold foldG at hx
      rw [xof_app1 he] at hx
      exact h1 k he x hx
    · have e : k = G.1.length := by omega
      subst e
      unfold foldG at hx
      rw [xof_app2] at hx
      rcases List.mem_cons.mp hx with e | e
      · rw [e]; exact b1
      · rw [List.mem_singleton.mp e]; exact b2
  · rw [hl]
    intro x hx
    unfold foldG at hx
    rcases fold2_mem _ _ _ _ _ (Nat.le_refl _) x hx with e | e
    · omega
    · have := h2 x e
      omega
  · rw [hl]
    intro k hk
    by_cases he : k < G.1.length
    · unfold foldG
      rw [xof_app1 he]
      exact h3 k he
    · have e : k = G.1.length := by omega
      subst e
      unfold foldG
      rw [xof_app2]
      exact Nat.le_add_left 1 1
section FO1
variable {M : PM} {g N : Nat} {p : Nat → Nat} {X : Nat → List Int} {mn : List Int} {lt dp us : Nat → Int} {W : Int}
theorem c_Gr_addRule (h : Gm M g N p X mn lt dp us W) (hN : N < 26) : Wm 31 [.ref g] M (fun v M' => v = some (.ref (p N)) ∧ Fr (inG g) M M' ∧ Gm M' g (N + 1) p (updF X N []) mn lt dp us W) := by
  have hg1 := h.obj
  obtain ⟨f, hf1, hf2⟩ := h.2.1
  obtain ⟨j, hj, ej⟩ := h.pos hN
  obtain ⟨gr, r1, r2, r3, r4⟩ := h.row hN
  have hcl := c_Row_clear (h.row hN)
  refine wm_in (lv := _) rfl rfl rfl ?_
  repeat (refine wf rfl ?_; first | refine wq_iadd ?_ | refine wq_isub ?_ | refine wq_imul ?_ | refine wq_iinc rfl ?_ | refine wq_goto ?_ | refine wq_k rfl ?_ | refine wq_b rfl rfl ?_ | refine wq_getf (by assumption) rfl ?_ | refine wq_alen (by assumption) rfl ?_)
  refine wf rfl (wq_lt ⟨by omega, by omega⟩ ⟨by omega, by omega⟩ (fun c1 => ?_) (fun c1 => by exfalso; omega))
  repeat (refine wf rfl ?_; first | refine wq_iadd ?_ | refine wq_isub ?_ | refine wq_imul ?_ | refine wq_iinc rfl ?_ | refine wq_goto ?_ | refine wq_k rfl ?_ | refine wq_b rfl rfl ?_ | refine wq_getf (by assumption) rfl ?_ | refine wq_alen (by assumption) rfl ?_)
  refine wf rfl (wq_aald hf1 rfl ⟨by omega, by omega⟩ (by omega) (by omega) (hf2 N hN) ?_)
  repeat (refine wf rfl ?_; first | refine wq_iadd ?_ | refine wq_isub ?_ | refine wq_imul ?_ | refine wq_iinc rfl ?_ | refine wq_goto ?_ | refine wq_k rfl ?_ | refine wq_b rfl rfl ?_ | refine wq_getf (by assumption) rfl ?_ | refine wq_alen (by assumption) rfl ?_)
  refine wf rfl (wq_cv rfl rfl rfl r1 (hcl.mono ?_))
  rintro v M1 ⟨rfl, hr1, f1⟩
  have h1 := h.newRow hN (f1.mono (fun q hq => Or.inl hq)) hr1
  have hg2 := h1.obj
  obtain ⟨-, -, -, hl1, hd1, hu1, -⟩ := id h1
  repeat (refine wf rfl ?_; first | refine wq_iadd ?_ | refine wq_isub ?_ | refine wq_imul ?_ | refine wq_iinc rfl ?_ | refine wq_goto ?_ | refine wq_k rfl ?_ | refine wq_b rfl rfl ?_ | refine wq_getf (by assumption) rfl ?_ | refine wq_alen (by assumption) rfl ?_)
  refine wf rfl (wq_putf hg2 rfl (fun M2 e2 f2 => ?_))
  have eN : ((N + 1 : Nat) : Int) = N + 1 := by omega
  have h2 : Gm M2 g (N + 1) p (updF X N []) mn lt dp us W := h1.upd (f2.mono (fun q hq => by omega)) (by rw [eN]; exact e2) (f2.at (by omega) hl1) (f2.at (by omega) hd1) (f2.at (by omega) hu1) (by omega)
  repeat' (refine wf rfl ?_; first | refine wq_iadd ?_ | refine wq_isub ?_ | refine wq_imul ?_ | refine wq_iinc rfl ?_ | refine wq_goto ?_ | refine wq_k rfl ?_ | refine wq_b rfl rfl ?_ | refine wq_getf (by assumption) rfl ?_ | refine wq_alen (by assumption) rfl ?_ | (refine wq_eq ⟨by omega, by omega⟩ ⟨by omega, by omega⟩ (fun _ => ?_) (fun _ => ?_) <;> try (exfalso; omega)) | (refine wq_ne ⟨by omega, by omega⟩ ⟨by omega, by omega⟩ (fun _ => ?_) (fun _ => ?_) <;> try (exfalso; omega)) | (refine wq_lt ⟨by omega, by omega⟩ ⟨by omega, by omega⟩ (fun _ => ?_) (fun _ => ?_) <;> try (exfalso; omega)) | (refine wq_ge ⟨by omega, by omega⟩ ⟨by omega, by omega⟩ (fun _ => ?_) (fun _ => ?_) <;> try (exfalso; omega)) | (refine wq_gt ⟨by omega, by omega⟩ ⟨by omega, by omega⟩ (fun _ => ?_) (fun _ => ?_) <;> try (exfalso; omega)) | (refine wq_le ⟨by omega, by omega⟩ ⟨by omega, by omega⟩ (fun _ => ?_) (fun _ => ?_) <;> try (exfalso; omega)) | (refine wq_ifeq ⟨by omega, by omega⟩ (fun _ => ?_) (fun _ => ?_) <;> try (exfalso; omega)) | (refine wq_ifne ⟨by omega, by omega⟩ (fun _ => ?_) (fun _ => ?_) <;> try (exfalso; omega)) | (refine wq_iflt ⟨by omega, by omega⟩ (fun _ => ?_) (fun _ => ?_) <;> try (exfalso; omega)) | (refine wq_ifge ⟨by omega, by omega⟩ (fun _ => ?_) (fun _ => ?_) <;> try (exfalso; omega)) | (refine wq_ifgt ⟨by omega, by omega⟩ (fun _ => ?_) (fun _ => ?_) <;> try (exfalso; omega)) | (refine wq_ifle ⟨by omega, by omega⟩ (fun _ => ?_) (fun _ => ?_) <;> try (exfalso; omega)) | refine wq_r rfl rfl rfl rfl rfl rfl ?_)
  exact ⟨rfl, (f1.mono (fun q hq => by unfold inG; omega)).tr (f2.mono (fun q hq => by unfold inG; omega)), h2⟩
end FO1
end
section
/-- a grammar of the lists G, its measures unknown -/
def GL (M : PM) (g : Nat) (G : GS) : Prop := ∃ p X lt dp us W, Gm M g G.1.length p X G.2 lt dp us W ∧ (∀ k, k < G.1.length → X k = xof G.1 k) ∧ WFG G
theorem GM.gl {M : PM} {g : Nat} {G : GS} (h : GM M g G) : GL M g G := by
  obtain ⟨p, X, lt, dp, us, W, h1, h2, h3, h4⟩ := h
  exact ⟨p, X, lt, dp, us, W, h1, h3, h4⟩
theorem GL.fr {P : Nat → Prop} {M M' : PM} {g : Nat} {G : GS} (h : GL M g G) (f : Fr P M M') (hP : ∀ q, inG g q → ¬ P q) : GL M' g G := by
  obtain ⟨p, X, lt, dp, us, W, h1, h2, h3⟩ := h
  exact ⟨p, X, lt, dp, us, W, h1.fr f (fun q q1 q2 => hP q ⟨q1, q2⟩), h2, h3⟩
def PzE (M : PM) (q : Nat) : Prop := ∃ u bf bs bt, Pz M q u bf bs bt
theorem PzE.fr {P : Nat → Prop} {M M' : PM} {q : Nat} (h : PzE M q) (f : Fr P M M') (h1 : ¬ P q) (h2 : ¬ P (q + 1)) : PzE M' q := by
  obtain ⟨u, bf, bs, bt, h3⟩ := h
  exact ⟨u, bf, bs, bt, h3.fr f h1 h2⟩
abbrev foldPost (M : PM) (g q : Nat) (k : Int) (R : GS × Nat) : Option Value → PM → Prop := fun v M' => v = some (.int (I (k + (R.2 : Int)))) ∧ Fr (fun z => inG g z ∨ z = q ∨ z = q + 1) M M' ∧ GM M' g R.1 ∧ PzE M' q
theorem foldPost_s {M : PM} {g q : Nat} {k : Int} (R : GS × Nat) : foldPost M g q k (R.1, R.2 + 1) = foldPost M g q (k + 1) R := by
  unfold foldPost
  dsimp only
  rw [show k + ((R.2 + 1 : Nat) : Int) = k + 1 + (R.2 : Int) by omega]
section FO2
variable {M : PM} {g q : Nat} {t : Int}
theorem lp_foldE {M1 : PM} {G : GS} {R : GS × Nat} {k : Int} (hd : q + 1 < g ∨ g + 59 ≤ q) (hG : GL M1 g G) (hf : Fr (fun z => inG g z ∨ z = q ∨ z = q + 1) M M1) (hz : PzE M1 q) (hR : R = (G, 0)) :
    Wp k_X0_foldUpTo (93, [(0, .ref g), (1, .int (I t)), (2, .ref q), (3, .int (I k))], [], M1) (foldPost M g q k R) := by
  subst hR
  obtain ⟨p, X, lt, dp, us, W, h1, h2, h3⟩ := hG
  have hX : WFX G.1.length X := fun k hk s hs => h3.1 k hk s (by rw [← h2 k hk]; exact hs)
  have hme := c_Gr_measure h1 hX h3.2.1
  have hg1 := h1.obj
  repeat (refine wf rfl ?_; first | refine wq_iadd ?_ | refine wq_isub ?_ | refine wq_imul ?_ | refine wq_iinc rfl ?_ | refine wq_goto ?_ | refine wq_k rfl ?_ | refine wq_b rfl rfl ?_ | refine wq_getf (by assumption) rfl ?_ | refine wq_alen (by assumption) rfl ?_)
  refine wf rfl (wq_cv rfl rfl rfl hg1 (hme.mono ?_))
  rintro v M2 ⟨rfl, f2, lt', dp', us', W', h4, h5⟩
  repeat' (refine wf rfl ?_; first | refine wq_iadd ?_ | refine wq_isub ?_ | refine wq_imul ?_ | refine wq_iinc rfl ?_ | refine wq_goto ?_ | refine wq_k rfl ?_ | refine wq_b rfl rfl ?_ | refine wq_getf (by assumption) rfl ?_ | refine wq_alen (by assumption) rfl ?_ | (refine wq_eq ⟨by omega, by omega⟩ ⟨by omega, by omega⟩ (fun _ => ?_) (fun _ => ?_) <;> try (exfalso; omega)) | (refine wq_ne ⟨by omega, by omega⟩ ⟨by omega, by omega⟩ (fun _ => ?_) (fun _ => ?_) <;> try (exfalso; omega)) | (refine wq_lt ⟨by omega, by omega⟩ ⟨by omega, by omega⟩ (fun _ => ?_) (fun _ => ?_) <;> try (exfalso; omega)) | (refine wq_ge ⟨by omega, by omega⟩ ⟨by omega, by omega⟩ (fun _ => ?_) (fun _ => ?_) <;> try (exfalso; omega)) | (refine wq_gt ⟨by omega, by omega⟩ ⟨by omega, by omega⟩ (fun _ => ?_) (fun _ => ?_) <;> try (exfalso; omega)) | (refine wq_le ⟨by omega, by omega⟩ ⟨by omega, by omega⟩ (fun _ => ?_) (fun _ => ?_) <;> try (exfalso; omega)) | (refine wq_ifeq ⟨by omega, by omega⟩ (fun _ => ?_) (fun _ => ?_) <;> try (exfalso; omega)) | (refine wq_ifne ⟨by omega, by omega⟩ (fun _ => ?_) (fun _ => ?_) <;> try (exfalso; omega)) | (refine wq_iflt ⟨by omega, by omega⟩ (fun _ => ?_) (fun _ => ?_) <;> try (exfalso; omega)) | (refine wq_ifge ⟨by omega, by omega⟩ (fun _ => ?_) (fun _ => ?_) <;> try (exfalso; omega)) | (refine wq_ifgt ⟨by omega, by omega⟩ (fun _ => ?_) (fun _ => ?_) <;> try (exfalso; omega)) | (refine wq_ifle ⟨by omega, by omega⟩ (fun _ => ?_) (fun _ => ?_) <;> try (exfalso; omega)) | refine wq_r rfl rfl rfl rfl rfl rfl ?_)
  refine ⟨by simp, hf.tr (f2.mono (fun z hz => by unfold inG; omega)), ⟨p, X, lt', dp', us', W', h4, h5, h2, h3⟩, hz.fr f2 (by omega) (by omega)⟩
theorem foldN_0 {m : Nat} {G : GS} (h : m = 0 ∨ foldB G = false) : foldN m G = (G, 0) := by
  cases m with
  | zero => rw [foldN]
  | succ m =>
    rw [foldN, if_neg]
    rcases h with h | h
    · omega
    · rw [h]; simp
theorem lp_foldU (hd : q + 1 < g ∨ g + 59 ≤ q) (ht : inR t) (n : Nat) : ∀ (k : Int) (G : GS) (M1 : PM), (0 ≤ k ∧ (k = 0 ∨ k ≤ t) ∧ t - k < n ∧ GL M1 g G ∧ Fr (fun z => inG g z ∨ z = q ∨ z = q + 1) M M1 ∧ PzE M1 q) →
    Wp k_X0_foldUpTo (2, [(0, .ref g), (1, .int (I t)), (2, .ref q), (3, .int (I k))], [], M1) (foldPost M g q k (foldN (t - k).toNat G)) := by
  obtain ⟨t1, t2⟩ := id ht
  have hdg : ∀ z, inG g z → ¬ (z = q ∨ z = q + 1) := fun z hz => by unfold inG at hz; omega
  induction n with
  | zero =>
    rintro k G M1 ⟨i1, i2, i3, i4, i5, i6⟩
    repeat (refine wf rfl ?_; first | refine wq_iadd ?_ | refine wq_isub ?_ | refine wq_imul ?_ | refine wq_iinc rfl ?_ | refine wq_goto ?_ | refine wq_k rfl ?_ | refine wq_b rfl rfl ?_ | refine wq_getf (by assumption) rfl ?_ | refine wq_alen (by assumption) rfl ?_)
    refine wf rfl (wq_ge ⟨by omega, by omega⟩ ⟨by omega, by omega⟩ (fun c1 => ?_) (fun c1 => by exfalso; omega))
    exact lp_foldE hd i4 i5 i6 (foldN_0 (Or.inl (by omega)))
  | succ n ih =>
    rintro k G M1 ⟨i1, i2, i3, i4, i5, i6⟩
    obtain ⟨p, X, lt, dp, us, W, h1, h2, h3⟩ := id i4
    obtain ⟨u, bf, bs, bt, hz⟩ := id i6
    have hg1 := h1.obj
    have hN := h1.le
    have hsb : SB G.2 := h3.2.1.sb hN
    have hml := h1.main.len
    repeat (refine wf rfl ?_; first | refine wq_iadd ?_ | refine wq_isub ?_ | refine wq_imul ?_ | refine wq_iinc rfl ?_ | refine wq_goto ?_ | refine wq_k rfl ?_ | refine wq_b rfl rfl ?_ | refine wq_getf (by assumption) rfl ?_ | refine wq_alen (by assumption) rfl ?_)
    refine wf rfl (wq_ge ⟨by omega, by omega⟩ ⟨by omega, by omega⟩ (fun c1 => ?_) (fun c1 => ?_))
    · exact lp_foldE hd i4 i5 i6 (foldN_0 (Or.inl (by omega)))
    · repeat (refine wf rfl ?_; first | refine wq_iadd ?_ | refine wq_isub ?_ | refine wq_imul ?_ | refine wq_iinc rfl ?_ | refine wq_goto ?_ | refine wq_k rfl ?_ | refine wq_b rfl rfl ?_ | refine wq_getf (by assumption) rfl ?_ | refine wq_alen (by assumption) rfl ?_)
      refine wf rfl (wq_ge ⟨by omega, by omega⟩ ⟨by omega, by omega⟩ (fun c2 => ?_) (fun c2 => ?_))
      · exact lp_foldE hd i4 i5 i6 (foldN_0 (Or.inr (by
          unfold foldB
          rw [Bool.and_eq_false_iff]
          exact Or.inl (decide_eq_false (by omega)))))
      · have hfb := c_Pairs_findBest hz h1.main hsb (by omega)
        have hzz := bst_z (xs := G.2) (f := bf) (s := bs) (f' := 0) (s' := 0) (G.2.length - 1)
        have hbb := bst_bd (xs := G.2) (f := bf) (s := bs) (G.2.length - 1)
        have hz1 : (bstAll G.2 bf bs).2.2 = (bstAll G.2 0 0).2.2 := hzz.1
        have hz2 : 0 < (bstAll G.2 bf bs).2.2 → bstAll G.2 bf bs = bstAll G.2 0 0 := hzz.2
        have hb2 : 0 ≤ (bstAll G.2 bf bs).2.2 ∧ (bstAll G.2 bf bs).2.2 ≤ G.2.length := hbb
        repeat (refine wf rfl ?_; first | refine wq_iadd ?_ | refine wq_isub ?_ | refine wq_imul ?_ | refine wq_iinc rfl ?_ | refine wq_goto ?_ | refine wq_k rfl ?_ | refine wq_b rfl rfl ?_ | refine wq_getf (by assumption) rfl ?_ | refine wq_alen (by assumption) rfl ?_)
        refine wf rfl (wq_cv rfl rfl rfl hz.1 (hfb.mono ?_))
        rintro v M2 ⟨rfl, f2, u2, z2⟩
        have i4' : GL M2 g G := i4.fr f2 hdg
        have i5' := i5.tr (f2.mono (fun z hz => Or.inr hz))
        have i6' : PzE M2 q := ⟨_, _, _, _, z2⟩
        have fin : ¬ 1 < (bstAll G.2 bf bs).2.2 → foldN (t - k).toNat G = (G, 0) := fun hh => foldN_0 (Or.inr (by
          unfold foldB
          rw [Bool.and_eq_false_iff]
          exact Or.inr (decide_eq_false (by omega))))
        by_cases hb0 : 0 < (bstAll G.2 bf bs).2.2
        · rw [if_pos hb0]
          have eB := hz2 hb0
          refine wf rfl (wq_ifeq ⟨by omega, by omega⟩ (fun c3 => by exfalso; omega) (fun c3 => ?_))
          repeat (refine wf rfl ?_; first | refine wq_iadd ?_ | refine wq_isub ?_ | refine wq_imul ?_ | refine wq_iinc rfl ?_ | refine wq_goto ?_ | refine wq_k rfl ?_ | refine wq_b rfl rfl ?_ | refine wq_getf (by assumption) rfl ?_ | refine wq_alen (by assumption) rfl ?_)
          refine wf rfl (wq_cv rfl rfl rfl z2.1 ((c_Pairs_bestTimes z2).mono ?_))
          rintro v M2 ⟨rfl, rfl⟩
          repeat (refine wf rfl ?_; first | refine wq_iadd ?_ | refine wq_isub ?_ | refine wq_imul ?_ | refine wq_iinc rfl ?_ | refine wq_goto ?_ | refine wq_k rfl ?_ | refine wq_b rfl rfl ?_ | refine wq_getf (by assumption) rfl ?_ | refine wq_alen (by assumption) rfl ?_)
          refine wf rfl (wq_le ⟨by omega, by omega⟩ ⟨by omega, by omega⟩ (fun c4 => ?_) (fun c4 => ?_))
          · exact lp_foldE hd i4' i5' i6' (fin (by omega))
          · rw [eB] at z2 c4 hb2
            have hB : foldB G = true := by
              unfold foldB
              rw [Bool.and_eq_true, decide_eq_true_eq, decide_eq_true_eq]
              exact ⟨by omega, c4⟩
            obtain ⟨m1, m2⟩ := bstAll_mem (xs := G.2) (f := 0) (s := 0) (by omega)
            have b1 := hsb _ m1
            have b2 := hsb _ m2
            have h4 := h1.fr f2 (fun z q1 q2 => hdg z ⟨q1, q2⟩)
            have hg4 := h4.obj
            have hNN : G.1.length < 26 := by omega
            obtain ⟨jj, hjj, ejj⟩ := h4.pos hNN
            repeat (refine wf rfl ?_; first | refine wq_iadd ?_ | refine wq_isub ?_ | refine wq_imul ?_ | refine wq_iinc rfl ?_ | refine wq_goto ?_ | refine wq_k rfl ?_ | refine wq_b rfl rfl ?_ | refine wq_getf (by assumption) rfl ?_ | refine wq_alen (by assumption) rfl ?_)
            refine wf rfl (wq_cv rfl rfl rfl hg4 ((c_Gr_addRule h4 hNN).mono ?_))
            rintro v M3 ⟨rfl, f3, h5⟩
            have z3 := z2.fr f3 (by unfold inG; omega) (by unfold inG; omega)
            have hr3 := h5.row hNN
            rw [updF_at] at hr3
            obtain ⟨gr, r1, -, -, -⟩ := id hr3
            repeat (refine wf rfl ?_; first | refine wq_iadd ?_ | refine wq_isub ?_ | refine wq_imul ?_ | refine wq_iinc rfl ?_ | refine wq_goto ?_ | refine wq_k rfl ?_ | refine wq_b rfl rfl ?_ | refine wq_getf (by assumption) rfl ?_ | refine wq_alen (by assumption) rfl ?_)
            refine wf rfl (wq_cv rfl rfl rfl z3.1 ((c_Pairs_bestFirst z3).mono ?_))
            rintro v M3 ⟨rfl, rfl⟩
            refine wf rfl (wq_cv rfl rfl rfl r1 ((c_Row_add hr3).mono ?_))
            rintro v M4 (⟨a1, rfl, hr4, f4⟩ | ⟨a1, -, -⟩)
            rotate_left
            · exact absurd a1 (by simp)
            have h6 := h5.newRow hNN f4 hr4
            have z4 := z3.fr f4 (by omega) (by omega)
            obtain ⟨gr4, r4, -, -, -⟩ := id hr4
            repeat (refine wf rfl ?_; first | refine wq_iadd ?_ | refine wq_isub ?_ | refine wq_imul ?_ | refine wq_iinc rfl ?_ | refine wq_goto ?_ | refine wq_k rfl ?_ | refine wq_b rfl rfl ?_ | refine wq_getf (by assumption) rfl ?_ | refine wq_alen (by assumption) rfl ?_)
            refine wf rfl (wq_cv rfl rfl rfl z4.1 ((c_Pairs_bestSecond z4).mono ?_))
            rintro v M4 ⟨rfl, rfl⟩
            refine wf rfl (wq_cv rfl rfl rfl r4 ((c_Row_add hr4).mono ?_))
            rintro v M5 (⟨a2, rfl, hr5, f5⟩ | ⟨a2, -, -⟩)
            rotate_left
            · exact absurd a2 (by simp)
            have h7 := h6.newRow hNN f5 hr5
            have z5 := z4.fr f5 (by omega) (by omega)
            have hg7 := h7.obj
            have hm7 := h7.main
            obtain ⟨gr5, r5, -, -, -⟩ := id hm7
            repeat (refine wf rfl ?_; first | refine wq_iadd ?_ | refine wq_isub ?_ | refine wq_imul ?_ | refine wq_iinc rfl ?_ | refine wq_goto ?_ | refine wq_k rfl ?_ | refine wq_b rfl rfl ?_ | refine wq_getf (by assumption) rfl ?_ | refine wq_alen (by assumption) rfl ?_)
            refine wf rfl (wq_cv rfl rfl rfl z5.1 ((c_Pairs_bestFirst z5).mono ?_))
            rintro v M5 ⟨rfl, rfl⟩
            repeat (refine wf rfl ?_; first | refine wq_iadd ?_ | refine wq_isub ?_ | refine wq_imul ?_ | refine wq_iinc rfl ?_ | refine wq_goto ?_ | refine wq_k rfl ?_ | refine wq_b rfl rfl ?_ | refine wq_getf (by assumption) rfl ?_ | refine wq_alen (by assumption) rfl ?_)
            refine wf rfl (wq_cv rfl rfl rfl z5.1 ((c_Pairs_bestSecond z5).mono ?_))
            rintro v M5 ⟨rfl, rfl⟩
            repeat (refine wf rfl ?_; first | refine wq_iadd ?_ | refine wq_isub ?_ | refine wq_imul ?_ | refine wq_iinc rfl ?_ | refine wq_goto ?_ | refine wq_k rfl ?_ | refine wq_b rfl rfl ?_ | refine wq_getf (by assumption) rfl ?_ | refine wq_alen (by assumption) rfl ?_)
            refine wf rfl (wq_cv rfl rfl rfl r5 ((c_Row_foldPair (c := 8 + (G.1.length : Int)) ⟨by omega, by omega⟩ ⟨by omega, by omega⟩ (by omega) hsb hm7).mono ?_))
            rintro v M6 ⟨rfl, hr6, f6⟩
            have h8 := h7.newMain f6 hr6
            have z6 := z5.fr f6 (by omega) (by omega)
            have ff := ((((i5'.tr (f3.mono (fun z hz => Or.inl hz))).tr (f4.mono (fun z hz => Or.inl (by unfold inG; omega)))).tr (f5.mono (fun z hz => Or.inl (by unfold inG; omega)))).tr (f6.mono (fun z hz => Or.inl (by unfold inG; omega))))
            have hGL : GL M6 g (foldG G) := by
              refine ⟨p, _, lt, dp, us, W, by rw [foldG_len]; exact h8, ?_, h3.fold hB⟩
              rw [foldG_len]
              intro j hj
              by_cases he : j < G.1.length
              · rw [updF_ne _ _ (by omega), updF_ne _ _ (by omega), updF_ne _ _ (by omega), h2 j he]
                unfold foldG
                rw [xof_app1 he]
              · have e : j = G.1.length := by omega
                subst e
                rw [updF_at]
                unfold foldG
                rw [xof_app2]
                rfl
            have hstep := fun (_ : True) => ih (k + 1) (foldG G) M6 ⟨by omega, by omega, by omega, hGL, ff, ⟨_, _, _, _, z6⟩⟩
            rw [show foldN (t - k).toNat G = ((foldN (t - (k + 1)).toNat (foldG G)).1, (foldN (t - (k + 1)).toNat (foldG G)).2 + 1) by
              rw [show (t - k).toNat = (t - (k + 1)).toNat + 1 by omega, foldN, if_pos hB], foldPost_s]
            repeat' (first | (refine Wp.sub (hstep  ?_) ⟨rfl, rfl, rfl, rfl, trivial⟩ rfl) | (refine wf rfl ?_; first | refine wq_iadd ?_ | refine wq_isub ?_ | refine wq_imul ?_ | refine wq_iinc rfl ?_ | refine wq_goto ?_ | refine wq_k rfl ?_ | refine wq_b rfl rfl ?_ | refine wq_getf (by assumption) rfl ?_ | refine wq_alen (by assumption) rfl ?_ | fail | (refine wq_eq ⟨by omega, by omega⟩ ⟨by omega, by omega⟩ (fun _ => ?_) (fun _ => ?_) <;> try (exfalso; omega)) | (refine wq_ne ⟨by omega, by omega⟩ ⟨by omega, by omega⟩ (fun _ => ?_) (fun _ => ?_) <;> try (exfalso; omega)) | (refine wq_lt ⟨by omega, by omega⟩ ⟨by omega, by omega⟩ (fun _ => ?_) (fun _ => ?_) <;> try (exfalso; omega)) | (refine wq_ge ⟨by omega, by omega⟩ ⟨by omega, by omega⟩ (fun _ => ?_) (fun _ => ?_) <;> try (exfalso; omega)) | (refine wq_gt ⟨by omega, by omega⟩ ⟨by omega, by omega⟩ (fun _ => ?_) (fun _ => ?_) <;> try (exfalso; omega)) | (refine wq_le ⟨by omega, by omega⟩ ⟨by omega, by omega⟩ (fun _ => ?_) (fun _ => ?_) <;> try (exfalso; omega)) | (refine wq_ifeq ⟨by omega, by omega⟩ (fun _ => ?_) (fun _ => ?_) <;> try (exfalso; omega)) | (refine wq_ifne ⟨by omega, by omega⟩ (fun _ => ?_) (fun _ => ?_) <;> try (exfalso; omega)) | (refine wq_iflt ⟨by omega, by omega⟩ (fun _ => ?_) (fun _ => ?_) <;> try (exfalso; omega)) | (refine wq_ifge ⟨by omega, by omega⟩ (fun _ => ?_) (fun _ => ?_) <;> try (exfalso; omega)) | (refine wq_ifgt ⟨by omega, by omega⟩ (fun _ => ?_) (fun _ => ?_) <;> try (exfalso; omega)) | (refine wq_ifle ⟨by omega, by omega⟩ (fun _ => ?_) (fun _ => ?_) <;> try (exfalso; omega)) | refine wq_r rfl rfl rfl rfl rfl rfl ?_))
            trivial
        · rw [if_neg hb0]
          refine wf rfl (wq_ifeq ⟨by omega, by omega⟩ (fun c3 => ?_) (fun c3 => absurd rfl c3))
          exact lp_foldE hd i4' i5' i6' (fin (by omega))
theorem c_Gr_foldUpTo {G : GS} (h : GM M g G) (hz : PzE M q) (hd : q + 1 < g ∨ g + 59 ≤ q) (ht : inR t) : Wm 32 [.ref g, .int (I t), .ref q] M (foldPost M g q 0 (foldN t.toNat G)) := by
  have hstep := fun (_ : True) => lp_foldU (M := M) hd ht (t.toNat + 1) 0 G M ⟨by omega, by omega, by omega, h.gl, Fr.rf, hz⟩
  rw [show t - 0 = t by omega] at hstep
  refine wm_in (lv := _) rfl rfl rfl ?_
  repeat' (first | (refine Wp.sub (hstep  ?_) ⟨rfl, rfl, rfl, rfl, trivial⟩ rfl) | (refine wf rfl ?_; first | refine wq_iadd ?_ | refine wq_isub ?_ | refine wq_imul ?_ | refine wq_iinc rfl ?_ | refine wq_goto ?_ | refine wq_k rfl ?_ | refine wq_b rfl rfl ?_ | refine wq_getf (by assumption) rfl ?_ | refine wq_alen (by assumption) rfl ?_ | fail | (refine wq_eq ⟨by omega, by omega⟩ ⟨by omega, by omega⟩ (fun _ => ?_) (fun _ => ?_) <;> try (exfalso; omega)) | (refine wq_ne ⟨by omega, by omega⟩ ⟨by omega, by omega⟩ (fun _ => ?_) (fun _ => ?_) <;> try (exfalso; omega)) | (refine wq_lt ⟨by omega, by omega⟩ ⟨by omega, by omega⟩ (fun _ => ?_) (fun _ => ?_) <;> try (exfalso; omega)) | (refine wq_ge ⟨by omega, by omega⟩ ⟨by omega, by omega⟩ (fun _ => ?_) (fun _ => ?_) <;> try (exfalso; omega)) | (refine wq_gt ⟨by omega, by omega⟩ ⟨by omega, by omega⟩ (fun _ => ?_) (fun _ => ?_) <;> try (exfalso; omega)) | (refine wq_le ⟨by omega, by omega⟩ ⟨by omega, by omega⟩ (fun _ => ?_) (fun _ => ?_) <;> try (exfalso; omega)) | (refine wq_ifeq ⟨by omega, by omega⟩ (fun _ => ?_) (fun _ => ?_) <;> try (exfalso; omega)) | (refine wq_ifne ⟨by omega, by omega⟩ (fun _ => ?_) (fun _ => ?_) <;> try (exfalso; omega)) | (refine wq_iflt ⟨by omega, by omega⟩ (fun _ => ?_) (fun _ => ?_) <;> try (exfalso; omega)) | (refine wq_ifge ⟨by omega, by omega⟩ (fun _ => ?_) (fun _ => ?_) <;> try (exfalso; omega)) | (refine wq_ifgt ⟨by omega, by omega⟩ (fun _ => ?_) (fun _ => ?_) <;> try (exfalso; omega)) | (refine wq_ifle ⟨by omega, by omega⟩ (fun _ => ?_) (fun _ => ?_) <;> try (exfalso; omega)) | refine wq_r rfl rfl rfl rfl rfl rfl ?_))
  trivial
end FO2
end
