def gw : List Cond := lw_tbl.filter goodWord
theorem gw_in {w : Cond} (h : w ∈ gw) : w ∈ lw_tbl := (List.mem_filter.mp h).1
theorem gw_good {w : Cond} (h : w ∈ gw) : (w.onTables && w.keeps) = true ∨ ∃ ty, w = .arrayClass ty := good_of_word (List.mem_filter.mp h).2
theorem gw_at {w : Cond} {i : Nat} (h : lw_tbl[i]? = some w) (hg : goodWord w = true) : w ∈ gw := List.mem_filter.mpr ⟨List.mem_of_getElem? h, hg⟩
/-- a word of the tables at its place, that keeps -/
def wAt (i : Nat) (w : Cond) : Bool := decide (lw_tbl[i]? = some w) && goodWord w
def wAtN (i : Nat) (w : Cond) : Bool := decide (lw_tbl[i]? = some w)
theorem wAt_in {i : Nat} {w : Cond} (h : wAt i w = true) : w ∈ gw := by
  simp only [wAt, Bool.and_eq_true, decide_eq_true_eq] at h
  exact gw_at h.1 h.2
theorem wAtN_in {i : Nat} {w : Cond} (h : wAtN i w = true) : w ∈ lw_tbl := by
  simp only [wAtN, decide_eq_true_eq] at h
  exact List.mem_of_getElem? h
def own (k : Nat) : String := nth "" ownS k
def cl0 : vw_C := ("", fun _ => ("", "", "", false), 0)
def vcl (k : Nat) : vw_C := nth cl0 vwCl k
def mi0 : MI := (⟨"", "", ""⟩, ⟨#[]⟩, 0, none, 0, 0, 0)
def mi (y : Nat) : MI := nth mi0 mit y
def mm0 : MM := (none, [])
def mm (y : Nat) : MM := nth mm0 prg y
def plainY (y : MethodName) (n : Nat) : Bool := decide (y.cls ≠ "java/lang/invoke/MethodHandle") && decide (y.cls ≠ "java/lang/invoke/VarHandle") && decide ((parseMethodDescriptor y.desc).map (fun d => d.parameters.length) = some n) && plainFor y
def cwOk (q : MI) : Prop := Cond.code q.1 q.2.1 q.2.2.1 q.2.2.2.1 ∈ gw ∧ plainY q.1 q.2.2.2.2.2.2 = true
def cwAll : List MI → Prop
  | [] => True
  | q :: l => cwOk q ∧ cwAll l
theorem cwAll_at : ∀ {l : List MI} {q : MI}, cwAll l → q ∈ l → cwOk q
  | [], _, _, h => absurd h List.not_mem_nil
  | _ :: l, q, hl, h => by
    rcases List.mem_cons.mp h with e | h
    · rw [e]; exact hl.1
    · exact cwAll_at hl.2 h
set_option maxRecDepth 100000 in
theorem cw_0 : cwOk (nth mi0 mitC 0) := ⟨gw_at (i := 42) rfl rfl, by decide +kernel⟩
set_option maxRecDepth 100000 in
theorem cw_1 : cwOk (nth mi0 mitC 1) := ⟨gw_at (i := 370) rfl rfl, by decide +kernel⟩
set_option maxRecDepth 100000 in
theorem cw_2 : cwOk (nth mi0 mitC 2) := ⟨gw_at (i := 475) rfl rfl, by decide +kernel⟩
set_option maxRecDepth 100000 in
theorem cw_3 : cwOk (nth mi0 mitC 3) := ⟨gw_at (i := 256) rfl rfl, by decide +kernel⟩
set_option maxRecDepth 100000 in
theorem cw_4 : cwOk (nth mi0 mitC 4) := ⟨gw_at (i := 269) rfl rfl, by decide +kernel⟩
set_option maxRecDepth 100000 in
theorem cw_5 : cwOk (nth mi0 mitC 5) := ⟨gw_at (i := 428) rfl rfl, by decide +kernel⟩
set_option maxRecDepth 100000 in
theorem cw_6 : cwOk (nth mi0 mitC 6) := ⟨gw_at (i := 435) rfl rfl, by decide +kernel⟩
set_option maxRecDepth 100000 in
theorem cw_7 : cwOk (nth mi0 mitC 7) := ⟨gw_at (i := 595) rfl rfl, by decide +kernel⟩
set_option maxRecDepth 100000 in
theorem cw_8 : cwOk (nth mi0 mitC 8) := ⟨gw_at (i := 248) rfl rfl, by decide +kernel⟩
set_option maxRecDepth 100000 in
theorem cw_9 : cwOk (nth mi0 mitC 9) := ⟨gw_at (i := 265) rfl rfl, by decide +kernel⟩
set_option maxRecDepth 100000 in
theorem cw_10 : cwOk (nth mi0 mitC 10) := ⟨gw_at (i := 639) rfl rfl, by decide +kernel⟩
set_option maxRecDepth 100000 in
theorem cw_11 : cwOk (nth mi0 mitC 11) := ⟨gw_at (i := 244) rfl rfl, by decide +kernel⟩
set_option maxRecDepth 100000 in
theorem cw_12 : cwOk (nth mi0 mitC 12) := ⟨gw_at (i := 463) rfl rfl, by decide +kernel⟩
set_option maxRecDepth 100000 in
theorem cw_13 : cwOk (nth mi0 mitC 13) := ⟨gw_at (i := 277) rfl rfl, by decide +kernel⟩
set_option maxRecDepth 100000 in
theorem cw_14 : cwOk (nth mi0 mitC 14) := ⟨gw_at (i := 288) rfl rfl, by decide +kernel⟩
set_option maxRecDepth 100000 in
theorem cw_15 : cwOk (nth mi0 mitC 15) := ⟨gw_at (i := 390) rfl rfl, by decide +kernel⟩
set_option maxRecDepth 100000 in
theorem cw_16 : cwOk (nth mi0 mitC 16) := ⟨gw_at (i := 260) rfl rfl, by decide +kernel⟩
set_option maxRecDepth 100000 in
theorem cw_17 : cwOk (nth mi0 mitC 17) := ⟨gw_at (i := 273) rfl rfl, by decide +kernel⟩
set_option maxRecDepth 100000 in
theorem cw_18 : cwOk (nth mi0 mitC 18) := ⟨gw_at (i := 284) rfl rfl, by decide +kernel⟩
set_option maxRecDepth 100000 in
theorem cw_19 : cwOk (nth mi0 mitC 19) := ⟨gw_at (i := 459) rfl rfl, by decide +kernel⟩
set_option maxRecDepth 100000 in
theorem cw_20 : cwOk (nth mi0 mitC 20) := ⟨gw_at (i := 378) rfl rfl, by decide +kernel⟩
set_option maxRecDepth 100000 in
theorem cw_21 : cwOk (nth mi0 mitC 21) := ⟨gw_at (i := 397) rfl rfl, by decide +kernel⟩
set_option maxRecDepth 100000 in
theorem cw_22 : cwOk (nth mi0 mitC 22) := ⟨gw_at (i := 401) rfl rfl, by decide +kernel⟩
set_option maxRecDepth 100000 in
theorem cw_23 : cwOk (nth mi0 mitC 23) := ⟨gw_at (i := 385) rfl rfl, by decide +kernel⟩
set_option maxRecDepth 100000 in
theorem cw_24 : cwOk (nth mi0 mitC 24) := ⟨gw_at (i := 604) rfl rfl, by decide +kernel⟩
set_option maxRecDepth 100000 in
theorem cw_25 : cwOk (nth mi0 mitC 25) := ⟨gw_at (i := 633) rfl rfl, by decide +kernel⟩
set_option maxRecDepth 100000 in
theorem cw_26 : cwOk (nth mi0 mitC 26) := ⟨gw_at (i := 655) rfl rfl, by decide +kernel⟩
set_option maxRecDepth 100000 in
theorem cw_27 : cwOk (nth mi0 mitC 27) := ⟨gw_at (i := 629) rfl rfl, by decide +kernel⟩
set_option maxRecDepth 100000 in
theorem cw_28 : cwOk (nth mi0 mitC 28) := ⟨gw_at (i := 643) rfl rfl, by decide +kernel⟩
set_option maxRecDepth 100000 in
theorem cw_29 : cwOk (nth mi0 mitC 29) := ⟨gw_at (i := 660) rfl rfl, by decide +kernel⟩
set_option maxRecDepth 100000 in
theorem cw_30 : cwOk (nth mi0 mitC 30) := ⟨gw_at (i := 672) rfl rfl, by decide +kernel⟩
set_option maxRecDepth 100000 in
theorem cw_31 : cwOk (nth mi0 mitC 31) := ⟨gw_at (i := 447) rfl rfl, by decide +kernel⟩
set_option maxRecDepth 100000 in
theorem cw_32 : cwOk (nth mi0 mitC 32) := ⟨gw_at (i := 517) rfl rfl, by decide +kernel⟩
set_option maxRecDepth 100000 in
theorem cw_33 : cwOk (nth mi0 mitC 33) := ⟨gw_at (i := 553) rfl rfl, by decide +kernel⟩
set_option maxRecDepth 100000 in
theorem cw_34 : cwOk (nth mi0 mitC 34) := ⟨gw_at (i := 561) rfl rfl, by decide +kernel⟩
set_option maxRecDepth 100000 in
theorem cw_35 : cwOk (nth mi0 mitC 35) := ⟨gw_at (i := 581) rfl rfl, by decide +kernel⟩
set_option maxRecDepth 100000 in
theorem cw_36 : cwOk (nth mi0 mitC 36) := ⟨gw_at (i := 585) rfl rfl, by decide +kernel⟩
set_option maxRecDepth 100000 in
theorem cw_37 : cwOk (nth mi0 mitC 37) := ⟨gw_at (i := 98) rfl rfl, by decide +kernel⟩
set_option maxRecDepth 100000 in
theorem cw_38 : cwOk (nth mi0 mitC 38) := ⟨gw_at (i := 296) rfl rfl, by decide +kernel⟩
set_option maxRecDepth 100000 in
theorem cw_39 : cwOk (nth mi0 mitC 39) := ⟨gw_at (i := 471) rfl rfl, by decide +kernel⟩
set_option maxRecDepth 100000 in
theorem cw_40 : cwOk (nth mi0 mitC 40) := ⟨gw_at (i := 684) rfl rfl, by decide +kernel⟩
set_option maxRecDepth 100000 in
theorem cw_41 : cwOk (nth mi0 mitC 41) := ⟨gw_at (i := 85) rfl rfl, by decide +kernel⟩
set_option maxRecDepth 100000 in
theorem cw_42 : cwOk (nth mi0 mitC 42) := ⟨gw_at (i := 292) rfl rfl, by decide +kernel⟩
set_option maxRecDepth 100000 in
theorem cw_43 : cwOk (nth mi0 mitC 43) := ⟨gw_at (i := 406) rfl rfl, by decide +kernel⟩
set_option maxRecDepth 100000 in
theorem cw_44 : cwOk (nth mi0 mitC 44) := ⟨gw_at (i := 353) rfl rfl, by decide +kernel⟩
set_option maxRecDepth 100000 in
theorem cw_45 : cwOk (nth mi0 mitC 45) := ⟨gw_at (i := 339) rfl rfl, by decide +kernel⟩
set_option maxRecDepth 100000 in
theorem cw_46 : cwOk (nth mi0 mitC 46) := ⟨gw_at (i := 130) rfl rfl, by decide +kernel⟩
set_option maxRecDepth 100000 in
theorem cw_47 : cwOk (nth mi0 mitC 47) := ⟨gw_at (i := 501) rfl rfl, by decide +kernel⟩
set_option maxRecDepth 100000 in
theorem cw_48 : cwOk (nth mi0 mitC 48) := ⟨gw_at (i := 505) rfl rfl, by decide +kernel⟩
set_option maxRecDepth 100000 in
theorem cw_49 : cwOk (nth mi0 mitC 49) := ⟨gw_at (i := 509) rfl rfl, by decide +kernel⟩
set_option maxRecDepth 100000 in
theorem cw_50 : cwOk (nth mi0 mitC 50) := ⟨gw_at (i := 487) rfl rfl, by decide +kernel⟩
set_option maxRecDepth 100000 in
theorem cw_51 : cwOk (nth mi0 mitC 51) := ⟨gw_at (i := 491) rfl rfl, by decide +kernel⟩
set_option maxRecDepth 100000 in
theorem cw_52 : cwOk (nth mi0 mitC 52) := ⟨gw_at (i := 496) rfl rfl, by decide +kernel⟩
set_option maxRecDepth 100000 in
theorem cw_53 : cwOk (nth mi0 mitC 53) := ⟨gw_at (i := 168) rfl rfl, by decide +kernel⟩
set_option maxRecDepth 100000 in
theorem cw_54 : cwOk (nth mi0 mitC 54) := ⟨gw_at (i := 612) rfl rfl, by decide +kernel⟩
set_option maxRecDepth 100000 in
theorem cw_55 : cwOk (nth mi0 mitC 55) := ⟨gw_at (i := 620) rfl rfl, by decide +kernel⟩
set_option maxRecDepth 100000 in
theorem cw_56 : cwOk (nth mi0 mitC 56) := ⟨gw_at (i := 599) rfl rfl, by decide +kernel⟩
set_option maxRecDepth 100000 in
theorem cw_57 : cwOk (nth mi0 mitC 57) := ⟨gw_at (i := 117) rfl rfl, by decide +kernel⟩
set_option maxRecDepth 100000 in
theorem cw_58 : cwOk (nth mi0 mitC 58) := ⟨gw_at (i := 366) rfl rfl, by decide +kernel⟩
set_option maxRecDepth 100000 in
theorem cw_59 : cwOk (nth mi0 mitC 59) := ⟨gw_at (i := 410) rfl rfl, by decide +kernel⟩
set_option maxRecDepth 100000 in
theorem cw_60 : cwOk (nth mi0 mitC 60) := ⟨gw_at (i := 414) rfl rfl, by decide +kernel⟩
set_option maxRecDepth 100000 in
theorem cw_61 : cwOk (nth mi0 mitC 61) := ⟨gw_at (i := 443) rfl rfl, by decide +kernel⟩
set_option maxRecDepth 100000 in
theorem cw_62 : cwOk (nth mi0 mitC 62) := ⟨gw_at (i := 424) rfl rfl, by decide +kernel⟩
set_option maxRecDepth 100000 in
theorem cw_63 : cwOk (nth mi0 mitC 63) := ⟨gw_at (i := 417) rfl rfl, by decide +kernel⟩
set_option maxRecDepth 100000 in
theorem cw_64 : cwOk (nth mi0 mitC 64) := ⟨gw_at (i := 49) rfl rfl, by decide +kernel⟩
set_option maxRecDepth 100000 in
theorem cw_65 : cwOk (nth mi0 mitC 65) := ⟨gw_at (i := 252) rfl rfl, by decide +kernel⟩
set_option maxRecDepth 100000 in
theorem cw_66 : cwOk (nth mi0 mitC 66) := ⟨gw_at (i := 323) rfl rfl, by decide +kernel⟩
set_option maxRecDepth 100000 in
theorem cw_67 : cwOk (nth mi0 mitC 67) := ⟨gw_at (i := 319) rfl rfl, by decide +kernel⟩
set_option maxRecDepth 100000 in
theorem cw_68 : cwOk (nth mi0 mitC 68) := ⟨gw_at (i := 536) rfl rfl, by decide +kernel⟩
set_option maxRecDepth 100000 in
theorem cw_69 : cwOk (nth mi0 mitC 69) := ⟨gw_at (i := 374) rfl rfl, by decide +kernel⟩
set_option maxRecDepth 100000 in
theorem cw_70 : cwOk (nth mi0 mitC 70) := ⟨gw_at (i := 451) rfl rfl, by decide +kernel⟩
set_option maxRecDepth 100000 in
theorem cw_71 : cwOk (nth mi0 mitC 71) := ⟨gw_at (i := 439) rfl rfl, by decide +kernel⟩
set_option maxRecDepth 100000 in
theorem cw_72 : cwOk (nth mi0 mitC 72) := ⟨gw_at (i := 664) rfl rfl, by decide +kernel⟩
set_option maxRecDepth 100000 in
theorem cw_73 : cwOk (nth mi0 mitC 73) := ⟨gw_at (i := 676) rfl rfl, by decide +kernel⟩
set_option maxRecDepth 100000 in
theorem cw_74 : cwOk (nth mi0 mitC 74) := ⟨gw_at (i := 569) rfl rfl, by decide +kernel⟩
set_option maxRecDepth 100000 in
theorem cw_75 : cwOk (nth mi0 mitC 75) := ⟨gw_at (i := 573) rfl rfl, by decide +kernel⟩
set_option maxRecDepth 100000 in
theorem cw_76 : cwOk (nth mi0 mitC 76) := ⟨gw_at (i := 531) rfl rfl, by decide +kernel⟩
set_option maxRecDepth 100000 in
theorem cw_77 : cwOk (nth mi0 mitC 77) := ⟨gw_at (i := 757) rfl rfl, by decide +kernel⟩
set_option maxRecDepth 100000 in
theorem cw_78 : cwOk (nth mi0 mitC 78) := ⟨gw_at (i := 527) rfl rfl, by decide +kernel⟩
set_option maxRecDepth 100000 in
theorem cw_79 : cwOk (nth mi0 mitC 79) := ⟨gw_at (i := 557) rfl rfl, by decide +kernel⟩
set_option maxRecDepth 100000 in
theorem cw_80 : cwOk (nth mi0 mitC 80) := ⟨gw_at (i := 565) rfl rfl, by decide +kernel⟩
set_option maxRecDepth 100000 in
theorem cw_81 : cwOk (nth mi0 mitC 81) := ⟨gw_at (i := 149) rfl rfl, by decide +kernel⟩
set_option maxRecDepth 100000 in
theorem cw_82 : cwOk (nth mi0 mitC 82) := ⟨gw_at (i := 304) rfl rfl, by decide +kernel⟩
set_option maxRecDepth 100000 in
theorem cw_83 : cwOk (nth mi0 mitC 83) := ⟨gw_at (i := 739) rfl rfl, by decide +kernel⟩
set_option maxRecDepth 100000 in
theorem cw_84 : cwOk (nth mi0 mitC 84) := ⟨gw_at (i := 308) rfl rfl, by decide +kernel⟩
set_option maxRecDepth 100000 in
theorem cw_85 : cwOk (nth mi0 mitC 85) := ⟨gw_at (i := 314) rfl rfl, by decide +kernel⟩
set_option maxRecDepth 100000 in
theorem cw_86 : cwOk (nth mi0 mitC 86) := ⟨gw_at (i := 181) rfl rfl, by decide +kernel⟩
set_option maxRecDepth 100000 in
theorem cw_87 : cwOk (nth mi0 mitC 87) := ⟨gw_at (i := 696) rfl rfl, by decide +kernel⟩
set_option maxRecDepth 100000 in
theorem cw_88 : cwOk (nth mi0 mitC 88) := ⟨gw_at (i := 704) rfl rfl, by decide +kernel⟩
set_option maxRecDepth 100000 in
theorem cw_89 : cwOk (nth mi0 mitC 89) := ⟨gw_at (i := 700) rfl rfl, by decide +kernel⟩
set_option maxRecDepth 100000 in
theorem cw_90 : cwOk (nth mi0 mitC 90) := ⟨gw_at (i := 34) rfl rfl, by decide +kernel⟩
set_option maxRecDepth 100000 in
theorem cw_91 : cwOk (nth mi0 mitC 91) := ⟨gw_at (i := 362) rfl rfl, by decide +kernel⟩
set_option maxRecDepth 100000 in
theorem cw_92 : cwOk (nth mi0 mitC 92) := ⟨gw_at (i := 513) rfl rfl, by decide +kernel⟩
set_option maxRecDepth 100000 in
theorem cw_93 : cwOk (nth mi0 mitC 93) := ⟨gw_at (i := 549) rfl rfl, by decide +kernel⟩
set_option maxRecDepth 100000 in
theorem cw_94 : cwOk (nth mi0 mitC 94) := ⟨gw_at (i := 577) rfl rfl, by decide +kernel⟩
set_option maxRecDepth 100000 in
theorem cw_95 : cwOk (nth mi0 mitC 95) := ⟨gw_at (i := 624) rfl rfl, by decide +kernel⟩
set_option maxRecDepth 100000 in
theorem cw_96 : cwOk (nth mi0 mitC 96) := ⟨gw_at (i := 651) rfl rfl, by decide +kernel⟩
set_option maxRecDepth 100000 in
theorem cw_97 : cwOk (nth mi0 mitC 97) := ⟨gw_at (i := 668) rfl rfl, by decide +kernel⟩
set_option maxRecDepth 100000 in
theorem cw_98 : cwOk (nth mi0 mitC 98) := ⟨gw_at (i := 591) rfl rfl, by decide +kernel⟩
set_option maxRecDepth 100000 in
theorem cw_99 : cwOk (nth mi0 mitC 99) := ⟨gw_at (i := 743) rfl rfl, by decide +kernel⟩
set_option maxRecDepth 100000 in
theorem cw_100 : cwOk (nth mi0 mitC 100) := ⟨gw_at (i := 540) rfl rfl, by decide +kernel⟩
set_option maxRecDepth 100000 in
theorem cw_101 : cwOk (nth mi0 mitC 101) := ⟨gw_at (i := 240) rfl rfl, by decide +kernel⟩
set_option maxRecDepth 100000 in
theorem cw_102 : cwOk (nth mi0 mitC 102) := ⟨gw_at (i := 752) rfl rfl, by decide +kernel⟩
set_option maxRecDepth 100000 in
theorem cw_103 : cwOk (nth mi0 mitC 103) := ⟨gw_at (i := 483) rfl rfl, by decide +kernel⟩
set_option maxRecDepth 100000 in
theorem cw_104 : cwOk (nth mi0 mitC 104) := ⟨gw_at (i := 723) rfl rfl, by decide +kernel⟩
set_option maxRecDepth 100000 in
theorem cw_105 : cwOk (nth mi0 mitC 105) := ⟨gw_at (i := 735) rfl rfl, by decide +kernel⟩
set_option maxRecDepth 100000 in
theorem cw_106 : cwOk (nth mi0 mitC 106) := ⟨gw_at (i := 300) rfl rfl, by decide +kernel⟩
set_option maxRecDepth 100000 in
theorem cw_107 : cwOk (nth mi0 mitC 107) := ⟨gw_at (i := 731) rfl rfl, by decide +kernel⟩
set_option maxRecDepth 100000 in
theorem cw_108 : cwOk (nth mi0 mitC 108) := ⟨gw_at (i := 688) rfl rfl, by decide +kernel⟩
set_option maxRecDepth 100000 in
theorem cw_109 : cwOk (nth mi0 mitC 109) := ⟨gw_at (i := 616) rfl rfl, by decide +kernel⟩
set_option maxRecDepth 100000 in
theorem cw_110 : cwOk (nth mi0 mitC 110) := ⟨gw_at (i := 343) rfl rfl, by decide +kernel⟩
set_option maxRecDepth 100000 in
theorem cw_111 : cwOk (nth mi0 mitC 111) := ⟨gw_at (i := 335) rfl rfl, by decide +kernel⟩
set_option maxRecDepth 100000 in
theorem cw_112 : cwOk (nth mi0 mitC 112) := ⟨gw_at (i := 680) rfl rfl, by decide +kernel⟩
set_option maxRecDepth 100000 in
theorem cw_113 : cwOk (nth mi0 mitC 113) := ⟨gw_at (i := 712) rfl rfl, by decide +kernel⟩
set_option maxRecDepth 100000 in
theorem cw_114 : cwOk (nth mi0 mitC 114) := ⟨gw_at (i := 716) rfl rfl, by decide +kernel⟩
set_option maxRecDepth 100000 in
theorem cw_115 : cwOk (nth mi0 mitC 115) := ⟨gw_at (i := 467) rfl rfl, by decide +kernel⟩
set_option maxRecDepth 100000 in
theorem cw_116 : cwOk (nth mi0 mitC 116) := ⟨gw_at (i := 431) rfl rfl, by decide +kernel⟩
set_option maxRecDepth 100000 in
theorem cw_117 : cwOk (nth mi0 mitC 117) := ⟨gw_at (i := 692) rfl rfl, by decide +kernel⟩
set_option maxRecDepth 100000 in
theorem cw_118 : cwOk (nth mi0 mitC 118) := ⟨gw_at (i := 349) rfl rfl, by decide +kernel⟩
set_option maxRecDepth 100000 in
theorem cw_119 : cwOk (nth mi0 mitC 119) := ⟨gw_at (i := 346) rfl rfl, by decide +kernel⟩
set_option maxRecDepth 100000 in
theorem cw_120 : cwOk (nth mi0 mitC 120) := ⟨gw_at (i := 726) rfl rfl, by decide +kernel⟩
set_option maxRecDepth 100000 in
theorem cw_121 : cwOk (nth mi0 mitC 121) := ⟨gw_at (i := 280) rfl rfl, by decide +kernel⟩
set_option maxRecDepth 100000 in
theorem cw_122 : cwOk (nth mi0 mitC 122) := ⟨gw_at (i := 393) rfl rfl, by decide +kernel⟩
set_option maxRecDepth 100000 in
theorem cw_123 : cwOk (nth mi0 mitC 123) := ⟨gw_at (i := 381) rfl rfl, by decide +kernel⟩
set_option maxRecDepth 100000 in
theorem cw_124 : cwOk (nth mi0 mitC 124) := ⟨gw_at (i := 232) rfl rfl, by decide +kernel⟩
set_option maxRecDepth 100000 in
theorem cw_125 : cwOk (nth mi0 mitC 125) := ⟨gw_at (i := 327) rfl rfl, by decide +kernel⟩
set_option maxRecDepth 100000 in
theorem cw_126 : cwOk (nth mi0 mitC 126) := ⟨gw_at (i := 647) rfl rfl, by decide +kernel⟩
set_option maxRecDepth 100000 in
theorem cw_127 : cwOk (nth mi0 mitC 127) := ⟨gw_at (i := 331) rfl rfl, by decide +kernel⟩
set_option maxRecDepth 100000 in
theorem cw_128 : cwOk (nth mi0 mitC 128) := ⟨gw_at (i := 357) rfl rfl, by decide +kernel⟩
set_option maxRecDepth 100000 in
theorem cw_129 : cwOk (nth mi0 mitC 129) := ⟨gw_at (i := 236) rfl rfl, by decide +kernel⟩
set_option maxRecDepth 100000 in
theorem cw_130 : cwOk (nth mi0 mitC 130) := ⟨gw_at (i := 719) rfl rfl, by decide +kernel⟩
set_option maxRecDepth 100000 in
theorem cw_131 : cwOk (nth mi0 mitC 131) := ⟨gw_at (i := 748) rfl rfl, by decide +kernel⟩
set_option maxRecDepth 100000 in
theorem cws : cwAll mitC := ⟨cw_0, cw_1, cw_2, cw_3, cw_4, cw_5, cw_6, cw_7, cw_8, cw_9, cw_10, cw_11, cw_12, cw_13, cw_14, cw_15, cw_16, cw_17, cw_18, cw_19, cw_20, cw_21, cw_22, cw_23, cw_24, cw_25, cw_26, cw_27, cw_28, cw_29, cw_30, cw_31, cw_32, cw_33, cw_34, cw_35, cw_36, cw_37, cw_38, cw_39, cw_40, cw_41, cw_42, cw_43, cw_44, cw_45, cw_46, cw_47, cw_48, cw_49, cw_50, cw_51, cw_52, cw_53, cw_54, cw_55, cw_56, cw_57, cw_58, cw_59, cw_60, cw_61, cw_62, cw_63, cw_64, cw_65, cw_66, cw_67, cw_68, cw_69, cw_70, cw_71, cw_72, cw_73, cw_74, cw_75, cw_76, cw_77, cw_78, cw_79, cw_80, cw_81, cw_82, cw_83, cw_84, cw_85, cw_86, cw_87, cw_88, cw_89, cw_90, cw_91, cw_92, cw_93, cw_94, cw_95, cw_96, cw_97, cw_98, cw_99, cw_100, cw_101, cw_102, cw_103, cw_104, cw_105, cw_106, cw_107, cw_108, cw_109, cw_110, cw_111, cw_112, cw_113, cw_114, cw_115, cw_116, cw_117, cw_118, cw_119, cw_120, cw_121, cw_122, cw_123, cw_124, cw_125, cw_126, cw_127, cw_128, cw_129, cw_130, cw_131, trivial⟩
def fdOk (t : Nat × Nat × Nat × Nat × Nat) : Bool :=
  wAt (t.2.2.2.2 + 16) (.fieldLink (own t.1) t.2.1 ((vcl t.2.2.1).2.1 t.2.2.2.1).1 ((vcl t.2.2.1).2.1 t.2.2.2.1).2.1 ((vcl t.2.2.1).2.1 t.2.2.2.1).2.2.1) && decide (t.2.2.2.1 < (vcl t.2.2.1).2.2) && decide (t.2.2.1 < 10)
theorem fdl_ok : fdl.all fdOk = true := by decide +kernel
def clOk (t : Nat × Nat × Nat × Nat × Nat × Nat × Nat × Nat × Nat × Nat × Nat) : Bool :=
  match t with
  | (o, ix, kd, y, n, rc, pa, pb, pc, pd, pe) =>
    match kd with
    | 0 => wAt pa (.methodLink (own o) ix (mi y).1) && wAt pc (.initialized (mi y).1.cls) && wAt pd (.static (mi y).1) && decide (n = (mi y).2.2.2.2.2.2) && decide (y < 132)
    | 1 => wAt pa (.methodLink (own o) ix (mi y).1) && wAt pc (.initialized (mi y).1.cls) && wAt pd (.instanceMethod (mi y).1) && wAt pe (.selects (mi y).1.cls (mi y).1 (mi y).1) && decide (n = (mi y).2.2.2.2.2.2 + 1) && decide ((vcl rc).1 = (mi y).1.cls) && decide (rc < 10) && decide (y < 132)
    | 2 => wAt pa (.methodLink (own o) ix (mi y).1) && wAt pc (.initialized (mi y).1.cls) && wAt pd (.instanceMethod (mi y).1) && decide (n = (mi y).2.2.2.2.2.2 + 1) && decide ((mi y).1.name = "<init>") && decide ((mi y).2.2.2.1 = none) && decide (y < 132)
    | 3 => wAtN pa (.methodLinkNest (own o) ix (mi y).1 "PairGrammars") && wAt pc (.initialized (mi y).1.cls) && wAt pd (.instanceMethod (mi y).1) && decide (n = (mi y).2.2.2.2.2.2 + 1) && decide ((mi y).1.name = "<init>") && decide ((mi y).2.2.2.1 = none) && decide (y < 132)
    | 4 => wAt pa (.methodLink (own o) ix objectInit) && wAt pb (.code objectInit ⟨#[0xb1]⟩ 1 none) && wAt pd (.instanceMethod objectInit)
    | 5 => wAt pa (.methodLink (own o) ix arraycopyName) && wAt pb (.native arraycopyName) && wAt pc (.initialized "java/lang/System") && wAt pd (.static arraycopyName)
    | 6 => wAt pa (.methodLink (own o) ix ⟨"java/lang/Double", "doubleToRawLongBits", "(D)J"⟩) && wAt pb (.native ⟨"java/lang/Double", "doubleToRawLongBits", "(D)J"⟩) && wAt pc (.initialized "java/lang/Double") && wAt pd (.static ⟨"java/lang/Double", "doubleToRawLongBits", "(D)J"⟩)
    | 7 => wAt pa (.methodLink (own o) ix ⟨"java/lang/Float", "floatToRawIntBits", "(F)I"⟩) && wAt pb (.native ⟨"java/lang/Float", "floatToRawIntBits", "(F)I"⟩) && wAt pc (.initialized "java/lang/Float") && wAt pd (.static ⟨"java/lang/Float", "floatToRawIntBits", "(F)I"⟩)
    | 8 => wAtN pa (.methodLinkNest (own o) ix (mi y).1 "PairGrammars") && wAt pc (.initialized (mi y).1.cls) && wAt pd (.static (mi y).1) && decide (n = (mi y).2.2.2.2.2.2) && decide (y < 132)
    | _ => false
theorem cll_ok_0 : cll_0.all clOk = true := by decide +kernel
theorem cll_ok_1 : cll_1.all clOk = true := by decide +kernel
theorem cll_ok_2 : cll_2.all clOk = true := by decide +kernel
theorem cll_ok_3 : cll_3.all clOk = true := by decide +kernel
theorem cll_ok_4 : cll_4.all clOk = true := by decide +kernel
theorem cll_ok : cll.all clOk = true := by
  simp only [cll, List.all_append, cll_ok_0, cll_ok_1, cll_ok_2, cll_ok_3, cll_ok_4, Bool.and_self]
def nwOk (t : Nat × Nat × Nat × Nat × Nat × Nat × Nat) : Bool :=
  match t with
  | (o, ix, c, kd, pa, pb, pc) =>
    match kd with
    | 0 => wAt pa (.classLink (own o) ix (vcl c).1) && wAt pb (.instantiable (vcl c).1 (vcl c).2.2) && wAt pc (.initialized (vcl c).1) && decide (c < 10)
    | 1 => wAt pa (.classLink (own o) ix (vcl (match c with | 2 => 6 | _ => 0)).1) && wAtN pb (.arrayOver (.object (vcl (match c with | 2 => 6 | _ => 0)).1)) && decide (c = 2 ∨ c = 3)
    | _ => false
theorem nwl_ok : nwl.all nwOk = true := by decide +kernel
def csOk (t : Nat × Nat × Nat × Nat × Nat) : Bool :=
  match t with
  | (o, ix, kd, v, pa) =>
    match kd with
    | 1 => wAt pa (.constantLong (own o) ix (Int64.ofNat v))
    | 2 => wAt pa (.constantDouble (own o) ix (UInt64.ofNat v))
    | 3 => wAt pa (.constant (own o) ix (Int32.ofNat v))
    | _ => false
theorem csl_ok : csl.all csOk = true := by decide +kernel
theorem arrI_ok : wAt arrI (.arrayClass .int) = true := by decide +kernel
theorem arrZ_ok : wAt arrZ (.arrayClass .boolean) = true := by decide +kernel
/-- the class tables: words, names apart, types -/
def clsOk (k : Nat) : Bool :=
  match vcl k with
  | (C, T, N) => (u_ws C T N).all (fun w => goodWord w) && (List.range N).all (fun a => (List.range N).all (fun b => a == b || decide ((T a).2.1 ≠ (T b).2.1))) &&
    (List.range N).all (fun a => match parseFieldDescriptor (T a).2.2.1 with
      | some .int => nth false (nth [] fkl k) a
      | some (.object _) => !(nth true (nth [] fkl k) a)
      | some (.array _) => !(nth true (nth [] fkl k) a)
      | _ => false) && decide ((nth [] fkl k).length = N) && decide ((nth [] dfl k).length = N) && decide (nth [] dfl k = (nth [] fkl k).map (fun b => if b = true then Value.int 0 else Value.null))
theorem cls_ok : (List.range 10).all clsOk = true := by decide +kernel
