def finF (c k : Nat) : Bool := ((vcl c).2.1 k).2.2.2
/-- a row of a resolved code against the bytes and the tables -/
def okE (q : MI) (e : EN) : Bool := match e with
  | (pc, i, ln, nx, tg, r1, r2, r3) =>
    decide (decode q.2.1 pc = .ok (i, ln)) && Nat.beq nx (pc + ln) && (match i with
      | .tableswitch _ _ _ _ => true
      | .lookupswitch _ ps => (ps.toList.zip (ps.toList.drop 1)).all (fun (a, next) => a.1 < next.1)
      | .goto off => Nat.beq ln 3 && decide ((pc : Int) + off = (tg : Int))
      | .ifCond _ off => Nat.beq ln 3 && decide ((pc : Int) + off = (tg : Int))
      | .if_icmp _ off => Nat.beq ln 3 && decide ((pc : Int) + off = (tg : Int))
      | .istore_n k => Nat.beq ln 1 && Nat.blt k.val q.2.2.1
      | .fstore_n k => Nat.beq ln 1 && Nat.blt k.val q.2.2.1
      | .astore_n k => Nat.beq ln 1 && Nat.blt k.val q.2.2.1
      | .istore k => Nat.beq ln 2 && Nat.blt k q.2.2.1
      | .astore k => Nat.beq ln 2 && Nat.blt k q.2.2.1
      | .lstore k => Nat.beq ln 2 && Nat.blt (k + 1) q.2.2.1
      | .dstore k => Nat.beq ln 2 && Nat.blt (k + 1) q.2.2.1
      | .iinc k _ => Nat.beq ln 3 && Nat.blt k q.2.2.1
      | .bipush n => Nat.beq ln 2 && decide ((Int8.ofInt n).toInt32 = Int32.ofInt n)
      | .sipush n => Nat.beq ln 3 && decide ((Int16.ofInt n).toInt32 = Int32.ofInt n)
      | .ldc ix => Nat.beq ln 2 && csl.any (fun t => Nat.beq t.1 q.2.2.2.2.2.1 && Nat.beq t.2.1 ix && Nat.beq t.2.2.1 r1 && Nat.beq t.2.2.2.1 r2)
      | .ldc2_w ix => Nat.beq ln 3 && csl.any (fun t => Nat.beq t.1 q.2.2.2.2.2.1 && Nat.beq t.2.1 ix && Nat.beq t.2.2.1 r1 && Nat.beq t.2.2.2.1 r2)
      | .getfield ix => Nat.beq ln 3 && fdl.any (fun t => Nat.beq t.1 q.2.2.2.2.2.1 && Nat.beq t.2.1 ix && Nat.beq t.2.2.1 r1 && Nat.beq t.2.2.2.1 r2)
      | .putfield ix => Nat.beq ln 3 && fdl.any (fun t => Nat.beq t.1 q.2.2.2.2.2.1 && Nat.beq t.2.1 ix && Nat.beq t.2.2.1 r1 && Nat.beq t.2.2.2.1 r2) && (!(finF r1 r2) || (decide (q.1.name = "<init>") && decide (((vcl r1).2.1 r2).1 = q.1.cls)))
      | .new ix => Nat.beq ln 3 && nwl.any (fun t => Nat.beq t.1 q.2.2.2.2.2.1 && Nat.beq t.2.1 ix && Nat.beq t.2.2.1 r1 && Nat.beq t.2.2.2.1 0)
      | .anewarray ix => Nat.beq ln 3 && nwl.any (fun t => Nat.beq t.1 q.2.2.2.2.2.1 && Nat.beq t.2.1 ix && Nat.beq t.2.2.1 r1 && Nat.beq t.2.2.2.1 1)
      | .newarray _ => Nat.beq ln 2
      | .invokevirtual ix => Nat.beq ln 3 && cll.any (fun t => Nat.beq t.1 q.2.2.2.2.2.1 && Nat.beq t.2.1 ix && Nat.beq t.2.2.1 tg && Nat.beq t.2.2.2.1 r1 && Nat.beq t.2.2.2.2.1 r2 && Nat.beq t.2.2.2.2.2.1 r3) && Nat.blt (mi r1).2.2.2.2.1 q.2.2.2.2.1 && Nat.ble (mi r1).2.2.1 16
      | .invokespecial ix => Nat.beq ln 3 && cll.any (fun t => Nat.beq t.1 q.2.2.2.2.2.1 && Nat.beq t.2.1 ix && Nat.beq t.2.2.1 tg && Nat.beq t.2.2.2.1 r1 && Nat.beq t.2.2.2.2.1 r2 && Nat.beq t.2.2.2.2.2.1 r3) && (Nat.beq tg 4 || Nat.blt (mi r1).2.2.2.2.1 q.2.2.2.2.1) && Nat.ble (mi r1).2.2.1 16
      | .invokestatic ix => Nat.beq ln 3 && cll.any (fun t => Nat.beq t.1 q.2.2.2.2.2.1 && Nat.beq t.2.1 ix && Nat.beq t.2.2.1 tg && Nat.beq t.2.2.2.1 r1 && Nat.beq t.2.2.2.2.1 r2 && Nat.beq t.2.2.2.2.2.1 r3) && (Nat.beq tg 5 || Nat.beq tg 6 || Nat.beq tg 7 || Nat.blt (mi r1).2.2.2.2.1 q.2.2.2.2.1) && Nat.ble (mi r1).2.2.1 16
      | .aload _ => Nat.beq ln 2
      | .iload _ => Nat.beq ln 2
      | .lload _ => Nat.beq ln 2
      | .dload _ => Nat.beq ln 2
      | _ => Nat.beq ln 1)
/-- a method: its rows, its answer's type, its class -/
def okM (c : MM) (q : MI) : Prop := c.2.all (okE q) = true ∧ c.1 = q.2.2.2.1 ∧ own q.2.2.2.2.2.1 = q.1.cls ∧ 1 ≤ q.2.2.2.2.1
def okAll : List MM → List MI → Prop
  | c :: l, q :: r => okM c q ∧ okAll l r
  | _, _ => True
theorem okAll_at : ∀ {l : List MM} {r : List MI} (k : Nat), okAll l r → k < l.length → k < r.length → okM (nth mm0 l k) (nth mi0 r k)
  | [], _, _, _, h, _ => absurd h (Nat.not_lt_zero _)
  | _ :: _, [], _, _, _, h => absurd h (Nat.not_lt_zero _)
  | _ :: _, _ :: _, 0, h, _, _ => h.1
  | _ :: l, _ :: r, k + 1, h, h1, h2 => okAll_at k h.2 (Nat.lt_of_succ_lt_succ h1) (Nat.lt_of_succ_lt_succ h2)
theorem all_pieces {α : Type} {p : α → Bool} {l : List α} (n : Nat) (h1 : (l.take n).all p = true) (h2 : (l.drop n).all p = true) : l.all p = true := by
  rw [← List.take_append_drop n l, List.all_append, h1, h2]
  rfl
theorem okm_0 : okM k_X0_init (nth mi0 mit 0) := ⟨by decide +kernel, rfl, by decide +kernel, by decide +kernel⟩
theorem okm_1 : okM k_X0_clear (nth mi0 mit 1) := ⟨by decide +kernel, rfl, by decide +kernel, by decide +kernel⟩
theorem okm_2 : okM k_X0_copy (nth mi0 mit 2) := ⟨by decide +kernel, rfl, by decide +kernel, by decide +kernel⟩
theorem okm_3 : okM k_X0_ruleCount (nth mi0 mit 3) := ⟨by decide +kernel, rfl, by decide +kernel, by decide +kernel⟩
theorem okm_4 : okM k_X0_hasRule (nth mi0 mit 4) := ⟨by decide +kernel, rfl, by decide +kernel, by decide +kernel⟩
theorem okm_5 : okM k_X0_hasSymbol (nth mi0 mit 5) := ⟨by decide +kernel, rfl, by decide +kernel, by decide +kernel⟩
theorem okm_6 : okM k_X0_isRule (nth mi0 mit 6) := ⟨by decide +kernel, rfl, by decide +kernel, by decide +kernel⟩
theorem okm_7 : okM k_X0_hasPlace (nth mi0 mit 7) := ⟨by decide +kernel, rfl, by decide +kernel, by decide +kernel⟩
theorem okm_8 : okM k_X0_mainRow (nth mi0 mit 8) := ⟨by decide +kernel, rfl, by decide +kernel, by decide +kernel⟩
theorem okm_9 : okM k_X0_ruleRow (nth mi0 mit 9) := ⟨by decide +kernel, rfl, by decide +kernel, by decide +kernel⟩
theorem okm_10 : okM k_X0_mainSymbol (nth mi0 mit 10) := ⟨by decide +kernel, rfl, by decide +kernel, by decide +kernel⟩
theorem okm_11 : okM k_X0_wordLetters (nth mi0 mit 11) := ⟨by decide +kernel, rfl, by decide +kernel, by decide +kernel⟩
theorem okm_12 : okM k_X0_lettersOfRule (nth mi0 mit 12) := ⟨by decide +kernel, rfl, by decide +kernel, by decide +kernel⟩
theorem okm_13 : okM k_X0_depthOfRule (nth mi0 mit 13) := ⟨by decide +kernel, rfl, by decide +kernel, by decide +kernel⟩
theorem okm_14 : okM k_X0_usesOf (nth mi0 mit 14) := ⟨by decide +kernel, rfl, by decide +kernel, by decide +kernel⟩
theorem okm_15 : okM k_X0_lettersOfSymbol (nth mi0 mit 15) := ⟨by decide +kernel, rfl, by decide +kernel, by decide +kernel⟩
theorem okm_16 : okM k_X0_totalSize (nth mi0 mit 16) := ⟨by decide +kernel, rfl, by decide +kernel, by decide +kernel⟩
theorem okm_17 : okM k_X0_deepest (nth mi0 mit 17) := ⟨by decide +kernel, rfl, by decide +kernel, by decide +kernel⟩
theorem okm_18 : okM k_X0_unusedRules (nth mi0 mit 18) := ⟨by decide +kernel, rfl, by decide +kernel, by decide +kernel⟩
theorem okm_19 : okM k_X0_tellsTooMuch (nth mi0 mit 19) := ⟨by decide +kernel, rfl, by decide +kernel, by decide +kernel⟩
theorem okm_20 : okM k_X0_measure (nth mi0 mit 20) := ⟨by decide +kernel, rfl, by decide +kernel, by decide +kernel⟩
theorem okm_21 : okM k_X0_depthOfRow (nth mi0 mit 21) := ⟨by decide +kernel, rfl, by decide +kernel, by decide +kernel⟩
theorem okm_22 : okM k_X0_noteUses (nth mi0 mit 22) := ⟨by decide +kernel, rfl, by decide +kernel, by decide +kernel⟩
theorem okm_23 : okM k_X0_lettersAhead (nth mi0 mit 23) := ⟨by decide +kernel, rfl, by decide +kernel, by decide +kernel⟩
theorem okm_24 : okM k_X0_positionOf (nth mi0 mit 24) := ⟨by decide +kernel, rfl, by decide +kernel, by decide +kernel⟩
theorem okm_25 : okM k_X0_positionInMain (nth mi0 mit 25) := ⟨by decide +kernel, rfl, by decide +kernel, by decide +kernel⟩
theorem okm_26 : okM k_X0_isBoundary (nth mi0 mit 26) := ⟨by decide +kernel, rfl, by decide +kernel, by decide +kernel⟩
theorem okm_27 : okM k_X0_openTo (nth mi0 mit 27) := ⟨by decide +kernel, rfl, by decide +kernel, by decide +kernel⟩
theorem okm_28 : okM k_X0_setInMain (nth mi0 mit 28) := ⟨by decide +kernel, rfl, by decide +kernel, by decide +kernel⟩
theorem okm_29 : okM k_X0_putIntoMain (nth mi0 mit 29) := ⟨by decide +kernel, rfl, by decide +kernel, by decide +kernel⟩
theorem okm_30 : okM k_X0_takeFromMain (nth mi0 mit 30) := ⟨by decide +kernel, rfl, by decide +kernel, by decide +kernel⟩
theorem okm_31 : okM k_X0_addRule (nth mi0 mit 31) := ⟨by decide +kernel, rfl, by decide +kernel, by decide +kernel⟩
theorem okm_32 : okM k_X0_foldUpTo (nth mi0 mit 32) := ⟨by decide +kernel, rfl, by decide +kernel, by decide +kernel⟩
theorem okm_33 : okM k_X0_canUnroll (nth mi0 mit 33) := ⟨by decide +kernel, rfl, by decide +kernel, by decide +kernel⟩
theorem okm_34 : okM k_X0_unrollRule (nth mi0 mit 34) := ⟨by decide +kernel, rfl, by decide +kernel, by decide +kernel⟩
theorem okm_35 : okM k_X0_unrollSeldomUsed (nth mi0 mit 35) := ⟨by decide +kernel, rfl, by decide +kernel, by decide +kernel⟩
theorem okm_36 : okM k_X0_lowestSeldomUsed (nth mi0 mit 36) := ⟨by decide +kernel, rfl, by decide +kernel, by decide +kernel⟩
theorem okm_37 : okM k_X1_init (nth mi0 mit 37) := ⟨by decide +kernel, rfl, by decide +kernel, by decide +kernel⟩
theorem okm_38 : okM k_X1_size (nth mi0 mit 38) := ⟨by decide +kernel, rfl, by decide +kernel, by decide +kernel⟩
theorem okm_39 : okM k_X1_record (nth mi0 mit 39) := ⟨by decide +kernel, rfl, by decide +kernel, by decide +kernel⟩
theorem okm_40 : okM k_X1_takeBack (nth mi0 mit 40) := ⟨by decide +kernel, rfl, by decide +kernel, by decide +kernel⟩
theorem okm_41 : okM k_X2_init (nth mi0 mit 41) := ⟨by decide +kernel, rfl, by decide +kernel, by decide +kernel⟩
theorem okm_42 : okM k_X2_size (nth mi0 mit 42) := ⟨by decide +kernel, rfl, by decide +kernel, by decide +kernel⟩
theorem okm_43 : okM k_X2_at (nth mi0 mit 43) := ⟨by decide +kernel, rfl, by decide +kernel, by decide +kernel⟩
theorem okm_44 : okM k_X2_add (nth mi0 mit 44) := ⟨by decide +kernel, rfl, by decide +kernel, by decide +kernel⟩
theorem okm_45 : okM k_X2_clear (nth mi0 mit 45) := ⟨by decide +kernel, rfl, by decide +kernel, by decide +kernel⟩
theorem okm_46 : okM k_X3_init (nth mi0 mit 46) := ⟨by decide +kernel, rfl, by decide +kernel, by decide +kernel⟩
theorem okm_47 : okM k_X3_bestFirst (nth mi0 mit 47) := ⟨by decide +kernel, rfl, by decide +kernel, by decide +kernel⟩
theorem okm_48 : okM k_X3_bestSecond (nth mi0 mit 48) := ⟨by decide +kernel, rfl, by decide +kernel, by decide +kernel⟩
theorem okm_49 : okM k_X3_bestTimes (nth mi0 mit 49) := ⟨by decide +kernel, rfl, by decide +kernel, by decide +kernel⟩
theorem okm_50 : okM k_X3_findBest (nth mi0 mit 50) := ⟨by decide +kernel, rfl, by decide +kernel, by decide +kernel⟩
theorem okm_51 : okM k_X3_countAll (nth mi0 mit 51) := ⟨by decide +kernel, rfl, by decide +kernel, by decide +kernel⟩
theorem okm_52 : okM k_X3_keyAt (nth mi0 mit 52) := ⟨by decide +kernel, rfl, by decide +kernel, by decide +kernel⟩
theorem okm_53 : okM k_X4_init (nth mi0 mit 53) := ⟨by decide +kernel, rfl, by decide +kernel, by decide +kernel⟩
theorem okm_54 : okM k_X4_foundLetter (nth mi0 mit 54) := ⟨by decide +kernel, rfl, by decide +kernel, by decide +kernel⟩
theorem okm_55 : okM k_X4_rulesPassed (nth mi0 mit 55) := ⟨by decide +kernel, rfl, by decide +kernel, by decide +kernel⟩
theorem okm_56 : okM k_X4_follow (nth mi0 mit 56) := ⟨by decide +kernel, rfl, by decide +kernel, by decide +kernel⟩
theorem okm_57 : okM k_X5_init (nth mi0 mit 57) := ⟨by decide +kernel, rfl, by decide +kernel, by decide +kernel⟩
theorem okm_58 : okM k_X5_read (nth mi0 mit 58) := ⟨by decide +kernel, rfl, by decide +kernel, by decide +kernel⟩
theorem okm_59 : okM k_X5_next (nth mi0 mit 59) := ⟨by decide +kernel, rfl, by decide +kernel, by decide +kernel⟩
theorem okm_60 : okM k_X5_startRow (nth mi0 mit 60) := ⟨by decide +kernel, rfl, by decide +kernel, by decide +kernel⟩
theorem okm_61 : okM k_X5_endRule (nth mi0 mit 61) := ⟨by decide +kernel, rfl, by decide +kernel, by decide +kernel⟩
theorem okm_62 : okM k_X5_grow (nth mi0 mit 62) := ⟨by decide +kernel, rfl, by decide +kernel, by decide +kernel⟩
theorem okm_63 : okM k_X5_symbolOf (nth mi0 mit 63) := ⟨by decide +kernel, rfl, by decide +kernel, by decide +kernel⟩
theorem okm_64 : okM k_X6_init (nth mi0 mit 64) := ⟨by decide +kernel, rfl, by decide +kernel, by decide +kernel⟩
theorem okm_65 : okM k_X6_size (nth mi0 mit 65) := ⟨by decide +kernel, rfl, by decide +kernel, by decide +kernel⟩
theorem okm_66 : okM k_X6_has (nth mi0 mit 66) := ⟨by decide +kernel, rfl, by decide +kernel, by decide +kernel⟩
theorem okm_67 : okM k_X6_at (nth mi0 mit 67) := ⟨by decide +kernel, rfl, by decide +kernel, by decide +kernel⟩
theorem okm_68 : okM k_X6_set (nth mi0 mit 68) := ⟨by decide +kernel, rfl, by decide +kernel, by decide +kernel⟩
theorem okm_69 : okM k_X6_clear (nth mi0 mit 69) := ⟨by decide +kernel, rfl, by decide +kernel, by decide +kernel⟩
theorem okm_70 : okM k_X6_copy (nth mi0 mit 70) := ⟨by decide +kernel, rfl, by decide +kernel, by decide +kernel⟩
theorem okm_71 : okM k_X6_add (nth mi0 mit 71) := ⟨by decide +kernel, rfl, by decide +kernel, by decide +kernel⟩
theorem okm_72 : okM k_X6_putIn (nth mi0 mit 72) := ⟨by decide +kernel, rfl, by decide +kernel, by decide +kernel⟩
theorem okm_73 : okM k_X6_takeOut (nth mi0 mit 73) := ⟨by decide +kernel, rfl, by decide +kernel, by decide +kernel⟩
theorem okm_74 : okM k_X6_open (nth mi0 mit 74) := ⟨by decide +kernel, rfl, by decide +kernel, by decide +kernel⟩
theorem okm_75 : okM k_X6_shift (nth mi0 mit 75) := ⟨by decide +kernel, rfl, by decide +kernel, by decide +kernel⟩
theorem okm_76 : okM k_X6_hasPair (nth mi0 mit 76) := ⟨by decide +kernel, rfl, by decide +kernel, by decide +kernel⟩
theorem okm_77 : okM k_X6_timesOfPair (nth mi0 mit 77) := ⟨by decide +kernel, rfl, by decide +kernel, by decide +kernel⟩
theorem okm_78 : okM k_X6_foldPair (nth mi0 mit 78) := ⟨by decide +kernel, rfl, by decide +kernel, by decide +kernel⟩
theorem okm_79 : okM k_X6_canUnroll (nth mi0 mit 79) := ⟨by decide +kernel, rfl, by decide +kernel, by decide +kernel⟩
theorem okm_80 : okM k_X6_unrollSymbol (nth mi0 mit 80) := ⟨by decide +kernel, rfl, by decide +kernel, by decide +kernel⟩
theorem okm_81 : okM k_X7_init (nth mi0 mit 81) := ⟨by decide +kernel, rfl, by decide +kernel, by decide +kernel⟩
theorem okm_82 : okM k_X7_markOfWord (nth mi0 mit 82) := ⟨by decide +kernel, rfl, by decide +kernel, by decide +kernel⟩
theorem okm_83 : okM k_X7_timesOfLetter (nth mi0 mit 83) := ⟨by decide +kernel, rfl, by decide +kernel, by decide +kernel⟩
theorem okm_84 : okM k_X7_sumRules (nth mi0 mit 84) := ⟨by decide +kernel, rfl, by decide +kernel, by decide +kernel⟩
theorem okm_85 : okM k_X7_sumRow (nth mi0 mit 85) := ⟨by decide +kernel, rfl, by decide +kernel, by decide +kernel⟩
theorem okm_86 : okM k_X8_init (nth mi0 mit 86) := ⟨by decide +kernel, rfl, by decide +kernel, by decide +kernel⟩
theorem okm_87 : okM k_X8_start (nth mi0 mit 87) := ⟨by decide +kernel, rfl, by decide +kernel, by decide +kernel⟩
theorem okm_88 : okM k_X8_next (nth mi0 mit 88) := ⟨by decide +kernel, rfl, by decide +kernel, by decide +kernel⟩
theorem okm_89 : okM k_X8_enter (nth mi0 mit 89) := ⟨by decide +kernel, rfl, by decide +kernel, by decide +kernel⟩
theorem okm_90 : okM k_X9_init (nth mi0 mit 90) := ⟨by decide +kernel, rfl, by decide +kernel, by decide +kernel⟩
theorem okm_91 : okM k_X9_tell (nth mi0 mit 91) := ⟨by decide +kernel, rfl, by decide +kernel, by decide +kernel⟩
theorem okm_92 : okM k_X9_fold (nth mi0 mit 92) := ⟨by decide +kernel, rfl, by decide +kernel, by decide +kernel⟩
theorem okm_93 : okM k_X9_unroll (nth mi0 mit 93) := ⟨by decide +kernel, rfl, by decide +kernel, by decide +kernel⟩
theorem okm_94 : okM k_X9_prune (nth mi0 mit 94) := ⟨by decide +kernel, rfl, by decide +kernel, by decide +kernel⟩
theorem okm_95 : okM k_X9_edit (nth mi0 mit 95) := ⟨by decide +kernel, rfl, by decide +kernel, by decide +kernel⟩
theorem okm_96 : okM k_X9_insert (nth mi0 mit 96) := ⟨by decide +kernel, rfl, by decide +kernel, by decide +kernel⟩
theorem okm_97 : okM k_X9_delete (nth mi0 mit 97) := ⟨by decide +kernel, rfl, by decide +kernel, by decide +kernel⟩
theorem okm_98 : okM k_X9_letter (nth mi0 mit 98) := ⟨by decide +kernel, rfl, by decide +kernel, by decide +kernel⟩
theorem okm_99 : okM k_X9_symbol (nth mi0 mit 99) := ⟨by decide +kernel, rfl, by decide +kernel, by decide +kernel⟩
theorem okm_100 : okM k_X9_ofRule (nth mi0 mit 100) := ⟨by decide +kernel, rfl, by decide +kernel, by decide +kernel⟩
theorem okm_101 : okM k_X9_count (nth mi0 mit 101) := ⟨by decide +kernel, rfl, by decide +kernel, by decide +kernel⟩
theorem okm_102 : okM k_X9_pair (nth mi0 mit 102) := ⟨by decide +kernel, rfl, by decide +kernel, by decide +kernel⟩
theorem okm_103 : okM k_X9_best (nth mi0 mit 103) := ⟨by decide +kernel, rfl, by decide +kernel, by decide +kernel⟩
theorem okm_104 : okM k_X9_ratio (nth mi0 mit 104) := ⟨by decide +kernel, rfl, by decide +kernel, by decide +kernel⟩
theorem okm_105 : okM k_X9_share (nth mi0 mit 105) := ⟨by decide +kernel, rfl, by decide +kernel, by decide +kernel⟩
theorem okm_106 : okM k_X9_mark (nth mi0 mit 106) := ⟨by decide +kernel, rfl, by decide +kernel, by decide +kernel⟩
theorem okm_107 : okM k_X9_couldBe (nth mi0 mit 107) := ⟨by decide +kernel, rfl, by decide +kernel, by decide +kernel⟩
theorem okm_108 : okM k_X9_unlike (nth mi0 mit 108) := ⟨by decide +kernel, rfl, by decide +kernel, by decide +kernel⟩
theorem okm_109 : okM k_X9_opens (nth mi0 mit 109) := ⟨by decide +kernel, rfl, by decide +kernel, by decide +kernel⟩
theorem okm_110 : okM k_X9_put (nth mi0 mit 110) := ⟨by decide +kernel, rfl, by decide +kernel, by decide +kernel⟩
theorem okm_111 : okM k_X9_wipe (nth mi0 mit 111) := ⟨by decide +kernel, rfl, by decide +kernel, by decide +kernel⟩
theorem okm_112 : okM k_X9_undo (nth mi0 mit 112) := ⟨by decide +kernel, rfl, by decide +kernel, by decide +kernel⟩
theorem okm_113 : okM k_X9_save (nth mi0 mit 113) := ⟨by decide +kernel, rfl, by decide +kernel, by decide +kernel⟩
theorem okm_114 : okM k_X9_restore (nth mi0 mit 114) := ⟨by decide +kernel, rfl, by decide +kernel, by decide +kernel⟩
theorem okm_115 : okM k_X9_accept (nth mi0 mit 115) := ⟨by decide +kernel, rfl, by decide +kernel, by decide +kernel⟩
theorem okm_116 : okM k_X9_isLetter (nth mi0 mit 116) := ⟨by decide +kernel, rfl, by decide +kernel, by decide +kernel⟩
theorem okm_117 : okM k_X9_isSlot (nth mi0 mit 117) := ⟨by decide +kernel, rfl, by decide +kernel, by decide +kernel⟩
theorem okm_118 : okM k_X9_codeIn (nth mi0 mit 118) := ⟨by decide +kernel, rfl, by decide +kernel, by decide +kernel⟩
theorem okm_119 : okM k_X9_lengthOf (nth mi0 mit 119) := ⟨by decide +kernel, rfl, by decide +kernel, by decide +kernel⟩
theorem okm_120 : okM k_X9_bitsOf (nth mi0 mit 120) := ⟨by decide +kernel, rfl, by decide +kernel, by decide +kernel⟩
theorem okm_121 : okM k_J9_max_7cf53 (nth mi0 mit 121) := ⟨by decide +kernel, rfl, by decide +kernel, by decide +kernel⟩
theorem okm_122 : okM k_J9_min_7cf53 (nth mi0 mit 122) := ⟨by decide +kernel, rfl, by decide +kernel, by decide +kernel⟩
theorem okm_123 : okM k_J7_fill_53178 (nth mi0 mit 123) := ⟨by decide +kernel, rfl, by decide +kernel, by decide +kernel⟩
