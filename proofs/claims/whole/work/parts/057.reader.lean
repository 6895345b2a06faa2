def kdX5 (k : Nat) : Nat := ([3, 3, 3, 3, 3, 3, 3, 3, 0, 0, 0, 0, 0, 0, 4, 4, 0, 0] : List Nat).getD k 9
def ksX5 : List Nat := [4, 5, 6, 7]
def akX5 (k : Nat) : Nat := ([9, 9, 9, 9, 0, 0, 0, 0, 9, 9, 9, 9, 9, 9, 9, 9, 9, 9] : List Nat).getD k 9
def lnX5 (k : Nat) : Nat := ([0, 0, 0, 0, 320, 320, 320, 320, 0, 0, 0, 0, 0, 0, 0, 0, 0, 0] : List Nat).getD k 0
def tkX5 (k : Nat) : FieldType := ([.int, .int, .int, .int, .int, .int, .int, .int, .int, .int, .int, .int, .int, .int, .int, .int, .int, .int] : List FieldType).getD k .int
abbrev wX5 (h : Nat) (a : Nat → Nat) (y : Nat → ClassId) (g : Gs) : va_W := wG 5 18 kdX5 ksX5 akX5 lnX5 h a y g
abbrev tX5 (y : Nat → ClassId) : List (ClassId × FieldType) := tG ksX5 tkX5 y
theorem ndX5 : va_nd ksX5 = true := by decide
theorem wi_X5 : ∀ w ∈ u_ws RX5 TX5 18, w ∈ lw_all := wi_all (wi_eq rfl (wi_ch tc_3 [70, 72, 74, 76, 78, 80, 82, 84, 86, 88, 90, 92, 94, 96, 98, 100, 102, 104]))
theorem q3_65 : Cond.fieldLink RX5 61 "TurningHall$Reader" "plan" "LTurningHall$Plan;" ∈ lw_all := lw_in (tc_3 (List.mem_of_getElem? (i := 65) rfl)) rfl
theorem q3_66 : Cond.fieldLink RX5 71 "TurningHall$Reader" "code" "LTurningHall$Code;" ∈ lw_all := lw_in (tc_3 (List.mem_of_getElem? (i := 66) rfl)) rfl
theorem q3_67 : Cond.fieldLink RX5 51 "TurningHall$Reader" "tooMuch" "I" ∈ lw_all := lw_in (tc_3 (List.mem_of_getElem? (i := 67) rfl)) rfl
theorem q3_68 : Cond.fieldLink RX5 54 "TurningHall$Reader" "faultPlace" "I" ∈ lw_all := lw_in (tc_3 (List.mem_of_getElem? (i := 68) rfl)) rfl
theorem q2_3 : Cond.fieldLinkNest RX5 142 "TurningHall$Code" "closed" "Z" "TurningHall" ∈ lw_tbl := tc_2 (List.mem_of_getElem? (i := 3) rfl)
theorem q3_52 : Cond.fieldLink RX5 77 "TurningHall$Reader" "scanner" "LTurningHall$Scanner;" ∈ lw_all := lw_in (tc_3 (List.mem_of_getElem? (i := 52) rfl)) rfl
theorem q3_0 : Cond.fieldLinkNest RX5 100 "TurningHall$Scanner" "kind" "I" "TurningHall" ∈ lw_tbl := tc_3 (List.mem_of_getElem? (i := 0) rfl)
theorem q4_61 : Cond.methodLink RX5 145 yX7_advance ∈ lw_all := lw_in (tc_4 (List.mem_of_getElem? (i := 61) rfl)) rfl
theorem q3_51 : Cond.fieldLink RX5 57 "TurningHall$Reader" "text" "[B" ∈ lw_all := lw_in (tc_3 (List.mem_of_getElem? (i := 51) rfl)) rfl
theorem q3_2 : Cond.fieldLinkNest RX5 114 "TurningHall$Scanner" "place" "I" "TurningHall" ∈ lw_tbl := tc_3 (List.mem_of_getElem? (i := 2) rfl)
theorem q3_4 : Cond.fieldLinkNest RX5 151 "TurningHall$Scanner" "size" "I" "TurningHall" ∈ lw_tbl := tc_3 (List.mem_of_getElem? (i := 4) rfl)
theorem q4_70 : Cond.methodLink RX5 154 yX4_putName ∈ lw_all := lw_in (tc_4 (List.mem_of_getElem? (i := 70) rfl)) rfl
theorem q4_71 : Cond.instanceMethod yX4_putName ∈ lw_all := lw_in (tc_4 (List.mem_of_getElem? (i := 71) rfl)) rfl
theorem q4_72 : Cond.selects RX4 yX4_putName yX4_putName ∈ lw_all := lw_in (tc_4 (List.mem_of_getElem? (i := 72) rfl)) rfl
theorem q4_73 : Cond.code yX4_putName cX4_putName 6 none ∈ lw_all := lw_in (tc_4 (List.mem_of_getElem? (i := 73) rfl)) rfl
theorem q4_66 : Cond.methodLink RX5 148 yX5_noteTooMuch ∈ lw_all := lw_in (tc_4 (List.mem_of_getElem? (i := 66) rfl)) rfl
theorem q4_68 : Cond.instanceMethod yX5_noteTooMuch ∈ lw_all := lw_in (tc_4 (List.mem_of_getElem? (i := 68) rfl)) rfl
theorem q0_13 : Cond.selects RX5 yX5_noteTooMuch yX5_noteTooMuch ∈ lw_all := lw_in (tc_0 (List.mem_of_getElem? (i := 13) rfl)) rfl
theorem q1_10 : Cond.initialized RX5 ∈ lw_all := lw_in (tc_1 (List.mem_of_getElem? (i := 10) rfl)) rfl
theorem q4_69 : Cond.code yX5_noteTooMuch cX5_noteTooMuch 2 none ∈ lw_all := lw_in (tc_4 (List.mem_of_getElem? (i := 69) rfl)) rfl
theorem q2_1 : Cond.fieldLinkNest RX5 241 "TurningHall$Code" "nodes" "I" "TurningHall" ∈ lw_tbl := tc_2 (List.mem_of_getElem? (i := 1) rfl)
theorem q4_101 : Cond.methodLink RX5 244 yX0_add ∈ lw_all := lw_in (tc_4 (List.mem_of_getElem? (i := 101) rfl)) rfl
theorem q4_102 : Cond.instanceMethod yX0_add ∈ lw_all := lw_in (tc_4 (List.mem_of_getElem? (i := 102) rfl)) rfl
theorem q4_103 : Cond.selects RX0 yX0_add yX0_add ∈ lw_all := lw_in (tc_4 (List.mem_of_getElem? (i := 103) rfl)) rfl
theorem q4_104 : Cond.code yX0_add cX0_add 4 (some .int) ∈ lw_all := lw_in (tc_4 (List.mem_of_getElem? (i := 104) rfl)) rfl
theorem q1_230 : Cond.fieldLinkNest RX5 247 "TurningHall$Code" "arg" "[I" "TurningHall" ∈ lw_tbl := tc_1 (List.mem_of_getElem? (i := 230) rfl)
theorem q1_222 : Cond.fieldLinkNest RX5 250 "TurningHall$Code" "left" "[I" "TurningHall" ∈ lw_tbl := tc_1 (List.mem_of_getElem? (i := 222) rfl)
theorem q3_59 : Cond.fieldLink RX5 31 "TurningHall$Reader" "height" "I" ∈ lw_all := lw_in (tc_3 (List.mem_of_getElem? (i := 59) rfl)) rfl
theorem q3_55 : Cond.fieldLink RX5 18 "TurningHall$Reader" "open" "[I" ∈ lw_all := lw_in (tc_3 (List.mem_of_getElem? (i := 55) rfl)) rfl
theorem q3_56 : Cond.fieldLink RX5 22 "TurningHall$Reader" "openPlace" "[I" ∈ lw_all := lw_in (tc_3 (List.mem_of_getElem? (i := 56) rfl)) rfl
theorem q3_57 : Cond.fieldLink RX5 25 "TurningHall$Reader" "openMark" "[I" ∈ lw_all := lw_in (tc_3 (List.mem_of_getElem? (i := 57) rfl)) rfl
theorem q3_58 : Cond.fieldLink RX5 28 "TurningHall$Reader" "openMore" "[I" ∈ lw_all := lw_in (tc_3 (List.mem_of_getElem? (i := 58) rfl)) rfl
theorem q3_60 : Cond.fieldLink RX5 35 "TurningHall$Reader" "nest" "I" ∈ lw_all := lw_in (tc_3 (List.mem_of_getElem? (i := 60) rfl)) rfl
theorem q4_117 : Cond.methodLink RX5 253 yX5_push ∈ lw_all := lw_in (tc_4 (List.mem_of_getElem? (i := 117) rfl)) rfl
theorem q4_119 : Cond.instanceMethod yX5_push ∈ lw_all := lw_in (tc_4 (List.mem_of_getElem? (i := 119) rfl)) rfl
theorem q0_22 : Cond.selects RX5 yX5_push yX5_push ∈ lw_all := lw_in (tc_0 (List.mem_of_getElem? (i := 22) rfl)) rfl
theorem q4_120 : Cond.code yX5_push cX5_push 5 (some .int) ∈ lw_all := lw_in (tc_4 (List.mem_of_getElem? (i := 120) rfl)) rfl
theorem q4_113 : Cond.methodLink RX5 260 yX5_countNode ∈ lw_all := lw_in (tc_4 (List.mem_of_getElem? (i := 113) rfl)) rfl
theorem q4_115 : Cond.instanceMethod yX5_countNode ∈ lw_all := lw_in (tc_4 (List.mem_of_getElem? (i := 115) rfl)) rfl
theorem q0_21 : Cond.selects RX5 yX5_countNode yX5_countNode ∈ lw_all := lw_in (tc_0 (List.mem_of_getElem? (i := 21) rfl)) rfl
theorem q4_116 : Cond.code yX5_countNode cX5_countNode 2 none ∈ lw_all := lw_in (tc_4 (List.mem_of_getElem? (i := 116) rfl)) rfl
theorem q1_217 : Cond.fieldLinkNest RX5 266 "TurningHall$Code" "sort" "[I" "TurningHall" ∈ lw_tbl := tc_1 (List.mem_of_getElem? (i := 217) rfl)
theorem q3_6 : Cond.fieldLinkNest RX5 194 "TurningHall$Scanner" "sort" "I" "TurningHall" ∈ lw_tbl := tc_3 (List.mem_of_getElem? (i := 6) rfl)
theorem q1_233 : Cond.fieldLinkNest RX5 268 "TurningHall$Code" "whole" "[J" "TurningHall" ∈ lw_tbl := tc_1 (List.mem_of_getElem? (i := 233) rfl)
theorem q3_8 : Cond.fieldLinkNest RX5 201 "TurningHall$Scanner" "whole" "J" "TurningHall" ∈ lw_tbl := tc_3 (List.mem_of_getElem? (i := 8) rfl)
theorem q1_236 : Cond.fieldLinkNest RX5 271 "TurningHall$Code" "real" "[D" "TurningHall" ∈ lw_tbl := tc_1 (List.mem_of_getElem? (i := 236) rfl)
theorem q3_10 : Cond.fieldLinkNest RX5 197 "TurningHall$Scanner" "real" "D" "TurningHall" ∈ lw_tbl := tc_3 (List.mem_of_getElem? (i := 10) rfl)
theorem q3_62 : Cond.fieldLink RX5 42 "TurningHall$Reader" "heldOp" "I" ∈ lw_all := lw_in (tc_3 (List.mem_of_getElem? (i := 62) rfl)) rfl
theorem q3_63 : Cond.fieldLink RX5 45 "TurningHall$Reader" "heldPlace" "I" ∈ lw_all := lw_in (tc_3 (List.mem_of_getElem? (i := 63) rfl)) rfl
theorem q3_64 : Cond.fieldLink RX5 48 "TurningHall$Reader" "heldSize" "I" ∈ lw_all := lw_in (tc_3 (List.mem_of_getElem? (i := 64) rfl)) rfl
theorem q4_156 : Cond.methodLink RX5 257 yX5_readLeaf ∈ lw_all := lw_in (tc_4 (List.mem_of_getElem? (i := 156) rfl)) rfl
theorem q4_158 : Cond.instanceMethod yX5_readLeaf ∈ lw_all := lw_in (tc_4 (List.mem_of_getElem? (i := 158) rfl)) rfl
theorem q0_31 : Cond.selects RX5 yX5_readLeaf yX5_readLeaf ∈ lw_all := lw_in (tc_0 (List.mem_of_getElem? (i := 31) rfl)) rfl
theorem q4_159 : Cond.code yX5_readLeaf cX5_readLeaf 4 (some .int) ∈ lw_all := lw_in (tc_4 (List.mem_of_getElem? (i := 159) rfl)) rfl
theorem q4_125 : Cond.methodLink RX5 263 yX5_enter ∈ lw_all := lw_in (tc_4 (List.mem_of_getElem? (i := 125) rfl)) rfl
theorem q4_127 : Cond.instanceMethod yX5_enter ∈ lw_all := lw_in (tc_4 (List.mem_of_getElem? (i := 127) rfl)) rfl
theorem q0_24 : Cond.selects RX5 yX5_enter yX5_enter ∈ lw_all := lw_in (tc_0 (List.mem_of_getElem? (i := 24) rfl)) rfl
theorem q4_128 : Cond.code yX5_enter cX5_enter 5 (some .int) ∈ lw_all := lw_in (tc_4 (List.mem_of_getElem? (i := 128) rfl)) rfl
theorem q3_61 : Cond.fieldLink RX5 38 "TurningHall$Reader" "taken" "Z" ∈ lw_all := lw_in (tc_3 (List.mem_of_getElem? (i := 61) rfl)) rfl
theorem q4_148 : Cond.methodLink RX5 273 yX5_addNamed ∈ lw_all := lw_in (tc_4 (List.mem_of_getElem? (i := 148) rfl)) rfl
theorem q4_150 : Cond.instanceMethod yX5_addNamed ∈ lw_all := lw_in (tc_4 (List.mem_of_getElem? (i := 150) rfl)) rfl
theorem q0_29 : Cond.selects RX5 yX5_addNamed yX5_addNamed ∈ lw_all := lw_in (tc_0 (List.mem_of_getElem? (i := 29) rfl)) rfl
theorem q4_151 : Cond.code yX5_addNamed cX5_addNamed 6 none ∈ lw_all := lw_in (tc_4 (List.mem_of_getElem? (i := 151) rfl)) rfl
theorem q4_105 : Cond.methodLink RX5 305 yX5_skipTo ∈ lw_all := lw_in (tc_4 (List.mem_of_getElem? (i := 105) rfl)) rfl
theorem q4_107 : Cond.instanceMethod yX5_skipTo ∈ lw_all := lw_in (tc_4 (List.mem_of_getElem? (i := 107) rfl)) rfl
theorem q0_19 : Cond.selects RX5 yX5_skipTo yX5_skipTo ∈ lw_all := lw_in (tc_0 (List.mem_of_getElem? (i := 19) rfl)) rfl
theorem q4_108 : Cond.code yX5_skipTo cX5_skipTo 3 none ∈ lw_all := lw_in (tc_4 (List.mem_of_getElem? (i := 108) rfl)) rfl
theorem q4_90 : Cond.methodLink RX5 277 yX5_rankOf ∈ lw_all := lw_in (tc_4 (List.mem_of_getElem? (i := 90) rfl)) rfl
theorem q4_91 : Cond.static yX5_rankOf ∈ lw_all := lw_in (tc_4 (List.mem_of_getElem? (i := 91) rfl)) rfl
theorem q4_92 : Cond.code yX5_rankOf cX5_rankOf 1 (some .int) ∈ lw_all := lw_in (tc_4 (List.mem_of_getElem? (i := 92) rfl)) rfl
theorem q4_97 : Cond.methodLink RX5 302 yX5_writeTop ∈ lw_all := lw_in (tc_4 (List.mem_of_getElem? (i := 97) rfl)) rfl
theorem q4_99 : Cond.instanceMethod yX5_writeTop ∈ lw_all := lw_in (tc_4 (List.mem_of_getElem? (i := 99) rfl)) rfl
theorem q0_18 : Cond.selects RX5 yX5_writeTop yX5_writeTop ∈ lw_all := lw_in (tc_0 (List.mem_of_getElem? (i := 18) rfl)) rfl
theorem q4_100 : Cond.code yX5_writeTop cX5_writeTop 4 none ∈ lw_all := lw_in (tc_4 (List.mem_of_getElem? (i := 100) rfl)) rfl
theorem q4_137 : Cond.methodLink RX5 309 yX5_hasTwo ∈ lw_all := lw_in (tc_4 (List.mem_of_getElem? (i := 137) rfl)) rfl
theorem q4_138 : Cond.static yX5_hasTwo ∈ lw_all := lw_in (tc_4 (List.mem_of_getElem? (i := 138) rfl)) rfl
theorem q4_139 : Cond.code yX5_hasTwo cX5_hasTwo 1 (some .boolean) ∈ lw_all := lw_in (tc_4 (List.mem_of_getElem? (i := 139) rfl)) rfl
theorem q4_93 : Cond.methodLink RX5 280 yX5_closeParts ∈ lw_all := lw_in (tc_4 (List.mem_of_getElem? (i := 93) rfl)) rfl
theorem q4_95 : Cond.instanceMethod yX5_closeParts ∈ lw_all := lw_in (tc_4 (List.mem_of_getElem? (i := 95) rfl)) rfl
theorem q0_17 : Cond.selects RX5 yX5_closeParts yX5_closeParts ∈ lw_all := lw_in (tc_0 (List.mem_of_getElem? (i := 17) rfl)) rfl
theorem q4_96 : Cond.code yX5_closeParts cX5_closeParts 10 none ∈ lw_all := lw_in (tc_4 (List.mem_of_getElem? (i := 96) rfl)) rfl
theorem q4_129 : Cond.methodLink RX5 290 yX5_readElse ∈ lw_all := lw_in (tc_4 (List.mem_of_getElem? (i := 129) rfl)) rfl
theorem q4_131 : Cond.instanceMethod yX5_readElse ∈ lw_all := lw_in (tc_4 (List.mem_of_getElem? (i := 131) rfl)) rfl
theorem q0_25 : Cond.selects RX5 yX5_readElse yX5_readElse ∈ lw_all := lw_in (tc_0 (List.mem_of_getElem? (i := 25) rfl)) rfl
theorem q4_132 : Cond.code yX5_readElse cX5_readElse 3 (some .int) ∈ lw_all := lw_in (tc_4 (List.mem_of_getElem? (i := 132) rfl)) rfl
theorem q4_133 : Cond.methodLink RX5 293 yX5_readComma ∈ lw_all := lw_in (tc_4 (List.mem_of_getElem? (i := 133) rfl)) rfl
theorem q4_135 : Cond.instanceMethod yX5_readComma ∈ lw_all := lw_in (tc_4 (List.mem_of_getElem? (i := 135) rfl)) rfl
theorem q0_26 : Cond.selects RX5 yX5_readComma yX5_readComma ∈ lw_all := lw_in (tc_0 (List.mem_of_getElem? (i := 26) rfl)) rfl
theorem q4_136 : Cond.code yX5_readComma cX5_readComma 2 (some .int) ∈ lw_all := lw_in (tc_4 (List.mem_of_getElem? (i := 136) rfl)) rfl
theorem q4_140 : Cond.methodLink RX5 296 yX5_closeRound ∈ lw_all := lw_in (tc_4 (List.mem_of_getElem? (i := 140) rfl)) rfl
theorem q4_142 : Cond.instanceMethod yX5_closeRound ∈ lw_all := lw_in (tc_4 (List.mem_of_getElem? (i := 142) rfl)) rfl
theorem q0_27 : Cond.selects RX5 yX5_closeRound yX5_closeRound ∈ lw_all := lw_in (tc_0 (List.mem_of_getElem? (i := 27) rfl)) rfl
theorem q4_143 : Cond.code yX5_closeRound cX5_closeRound 3 (some .int) ∈ lw_all := lw_in (tc_4 (List.mem_of_getElem? (i := 143) rfl)) rfl
theorem q4_144 : Cond.methodLink RX5 299 yX5_closeSquare ∈ lw_all := lw_in (tc_4 (List.mem_of_getElem? (i := 144) rfl)) rfl
theorem q4_146 : Cond.instanceMethod yX5_closeSquare ∈ lw_all := lw_in (tc_4 (List.mem_of_getElem? (i := 146) rfl)) rfl
theorem q0_28 : Cond.selects RX5 yX5_closeSquare yX5_closeSquare ∈ lw_all := lw_in (tc_0 (List.mem_of_getElem? (i := 28) rfl)) rfl
theorem q4_147 : Cond.code yX5_closeSquare cX5_closeSquare 2 (some .int) ∈ lw_all := lw_in (tc_4 (List.mem_of_getElem? (i := 147) rfl)) rfl
theorem q4_121 : Cond.methodLink RX5 287 yX5_readQuestion ∈ lw_all := lw_in (tc_4 (List.mem_of_getElem? (i := 121) rfl)) rfl
theorem q4_123 : Cond.instanceMethod yX5_readQuestion ∈ lw_all := lw_in (tc_4 (List.mem_of_getElem? (i := 123) rfl)) rfl
theorem q0_23 : Cond.selects RX5 yX5_readQuestion yX5_readQuestion ∈ lw_all := lw_in (tc_0 (List.mem_of_getElem? (i := 23) rfl)) rfl
theorem q4_124 : Cond.code yX5_readQuestion cX5_readQuestion 1 (some .int) ∈ lw_all := lw_in (tc_4 (List.mem_of_getElem? (i := 124) rfl)) rfl
theorem q4_109 : Cond.methodLink RX5 284 yX5_readJoining ∈ lw_all := lw_in (tc_4 (List.mem_of_getElem? (i := 109) rfl)) rfl
theorem q4_111 : Cond.instanceMethod yX5_readJoining ∈ lw_all := lw_in (tc_4 (List.mem_of_getElem? (i := 111) rfl)) rfl
theorem q0_20 : Cond.selects RX5 yX5_readJoining yX5_readJoining ∈ lw_all := lw_in (tc_0 (List.mem_of_getElem? (i := 20) rfl)) rfl
theorem q4_112 : Cond.code yX5_readJoining cX5_readJoining 4 (some .int) ∈ lw_all := lw_in (tc_4 (List.mem_of_getElem? (i := 112) rfl)) rfl
/-! ### X5_begin -/
theorem dX5_begin_0 : decode cX5_begin 0 = .ok (.aload_n 0, 1) := by decide +kernel
theorem dX5_begin_1 : decode cX5_begin 1 = .ok (.aload_n 1, 1) := by decide +kernel
theorem dX5_begin_2 : decode cX5_begin 2 = .ok (.putfield 61, 3) := by decide +kernel
theorem dX5_begin_5 : decode cX5_begin 5 = .ok (.aload_n 0, 1) := by decide +kernel
theorem dX5_begin_6 : decode cX5_begin 6 = .ok (.aload_n 2, 1) := by decide +kernel
theorem dX5_begin_7 : decode cX5_begin 7 = .ok (.putfield 71, 3) := by decide +kernel
theorem dX5_begin_10 : decode cX5_begin 10 = .ok (.aload_n 0, 1) := by decide +kernel
theorem dX5_begin_11 : decode cX5_begin 11 = .ok (.iconst (-1), 1) := by decide +kernel
theorem dX5_begin_12 : decode cX5_begin 12 = .ok (.putfield 51, 3) := by decide +kernel
theorem dX5_begin_15 : decode cX5_begin 15 = .ok (.aload_n 0, 1) := by decide +kernel
theorem dX5_begin_16 : decode cX5_begin 16 = .ok (.iconst (-1), 1) := by decide +kernel
theorem dX5_begin_17 : decode cX5_begin 17 = .ok (.putfield 54, 3) := by decide +kernel
theorem dX5_begin_20 : decode cX5_begin 20 = .ok (.return_, 1) := by decide +kernel
abbrev R_X5_begin : Room := ({ frames := 0, cells := 0, slots := 0, locals := 0 } : Room)
def f_X5_begin (hP0 : Nat) (hP1 : Nat) (gT : Gs) (gP0 : Gs) (gP1 : Gs) : Option (Gs) :=
  some (sI (sI (sR (sR gT 14 (some hP0)) 15 (some hP1)) 16 (-1 : Int32)) 17 (-1 : Int32))
set_option maxHeartbeats 4000000 in
set_option maxRecDepth 100000 in
theorem c_X5_begin (l : Launch) (D : Dx) (hT : Nat) (aT : Nat → Nat) (yT : Nat → ClassId) (hP0 : Nat) (aP0 : Nat → Nat) (yP0 : Nat → ClassId) (hP1 : Nat) (aP1 : Nat → Nat) (yP1 : Nat → ClassId) (gT : Gs) (gP0 : Gs) (gP1 : Gs) (q : Gs) (hF : f_X5_begin hP0 hP1 gT gP0 gP1 = some q) (sz : Nat) : Met l yX5_begin (ws_ yX5_begin cX5_begin 3 none) R_X5_begin (PC D (tX5 yT ++ (tX4 yP0 ++ (tX0 yP1))) [.ref hT, .ref hP0, .ref hP1] (wX5 hT aT yT gT ++ (wX4 hP0 aP0 yP0 gP0 ++ (wX0 hP1 aP1 yP1 gP1))) sz) (QV D (va_A (wX5 hT aT yT gT ++ (wX4 hP0 aP0 yP0 gP0 ++ (wX0 hP1 aP1 yP1 gP1))) sz) (wX5 hT aT yT q ++ (wX4 hP0 aP0 yP0 gP0 ++ (wX0 hP1 aP1 yP1 gP1)))) 0 0 (va_A (wX5 hT aT yT gT ++ (wX4 hP0 aP0 yP0 gP0 ++ (wX0 hP1 aP1 yP1 gP1))) sz) := by
  refine Met.ofW (cc := cX5_begin) (maxL := 3) (ret := none) (by decide) rfl ?_
  intro p e s m args below meth c s₁ B hml hv
  obtain ⟨rfl, hsz, hP, hK, hD, hN⟩ := hv
  subst hsz
  have C : Cx p s m _ meth c cX5_begin none 3 RX5 lw_all := Cx_of B hml
  have X := Hx_start hP hK hD hN
  obtain ⟨hx, hb, hr, -, hown, hts, hlk⟩ := id C
  generalize va_A (wX5 hT aT yT gT ++ (wX4 hP0 aP0 yP0 gP0 ++ (wX0 hP1 aP1 yP1 gP1))) s.heap.size = A at X ⊢
  have hl := lv_entry ([.ref hT, .ref hP0, .ref hP1]) (n := 3) (Nat.le_of_ble_eq_true rfl)
  rw [lg_entry_eq]
  generalize (lg_sl ([.ref hT, .ref hP0, .ref hP1]) ++ List.replicate (3 - (lg_sl ([.ref hT, .ref hP0, .ref hP1])).length) Slot.unset).toArray = ls at hl ⊢
  have hl : lv_has ls 3 [(0, .ref hT), (1, .ref hP0), (2, .ref hP1)] := hl
  unfold f_X5_begin at hF
  refine lv_aload_n hx hb dX5_begin_0 rfl (lv_at hl 0 rfl) ?_
  refine lv_aload_n hx hb dX5_begin_1 rfl (lv_at hl 1 rfl) ?_
  refine va_put (D := D.1) (ci := 5) (v := .ref hP0) (ty := tyX5 14) (C := RX5) (T := TX5) (N := 18) hx hb hts wi_X5 tyX5 tyX5_ok nmX5 hown X.1 X.2.1 X.2.2.1 X.2.2.2.1 0 rfl rfl 14 (by decide) (hts _ q3_65) (fun _ h9 => h9) rfl (by decide +kernel) rfl rfl (by rw [List.length_map, List.length_range]; decide) dX5_begin_2 (fun H locs hP hD hS => ?_)
  have X : Hx D (tX5 yT ++ (tX4 yP0 ++ (tX0 yP1))) A s H locs (wX5 hT aT yT (sR gT 14 (some hP0)) ++ (wX4 hP0 aP0 yP0 gP0 ++ (wX0 hP1 aP1 yP1 gP1))) := Hx_set X (set_l (by rw [wG_len (m := 5) rfl]; decide) (wG_sR (k := 14) (v := some hP0) rfl)) hP hD hS
  refine lv_aload_n hx hb dX5_begin_5 rfl (lv_at hl 0 rfl) ?_
  refine lv_aload_n hx hb dX5_begin_6 rfl (lv_at hl 2 rfl) ?_
  refine va_put (D := D.1) (ci := 5) (v := .ref hP1) (ty := tyX5 15) (C := RX5) (T := TX5) (N := 18) hx hb hts wi_X5 tyX5 tyX5_ok nmX5 hown X.1 X.2.1 X.2.2.1 X.2.2.2.1 0 rfl rfl 15 (by decide) (hts _ q3_66) (fun _ h9 => h9) rfl (by decide +kernel) rfl rfl (by rw [List.length_map, List.length_range]; decide) dX5_begin_7 (fun H locs hP hD hS => ?_)
  have X : Hx D (tX5 yT ++ (tX4 yP0 ++ (tX0 yP1))) A s H locs (wX5 hT aT yT (sR (sR gT 14 (some hP0)) 15 (some hP1)) ++ (wX4 hP0 aP0 yP0 gP0 ++ (wX0 hP1 aP1 yP1 gP1))) := Hx_set X (set_l (by rw [wG_len (m := 5) rfl]; decide) (wG_sR (k := 15) (v := some hP1) rfl)) hP hD hS
  refine lv_aload_n hx hb dX5_begin_10 rfl (lv_at hl 0 rfl) ?_
  refine lv_iconst (v := (-1 : Int32)) hx hb dX5_begin_11 (by decide) ?_
  refine va_put (D := D.1) (ci := 5) (v := .int (-1 : Int32)) (ty := .int) (C := RX5) (T := TX5) (N := 18) hx hb hts wi_X5 tyX5 tyX5_ok nmX5 hown X.1 X.2.1 X.2.2.1 X.2.2.2.1 0 rfl rfl 16 (by decide) (hts _ q3_67) (fun _ h9 => h9) rfl (by decide +kernel) rfl rfl (by rw [List.length_map, List.length_range]; decide) dX5_begin_12 (fun H locs hP hD hS => ?_)
  have X : Hx D (tX5 yT ++ (tX4 yP0 ++ (tX0 yP1))) A s H locs (wX5 hT aT yT (sI (sR (sR gT 14 (some hP0)) 15 (some hP1)) 16 (-1 : Int32)) ++ (wX4 hP0 aP0 yP0 gP0 ++ (wX0 hP1 aP1 yP1 gP1))) := Hx_set X (set_l (by rw [wG_len (m := 5) rfl]; decide) (wG_sI (k := 16) rfl)) hP hD hS
  refine lv_aload_n hx hb dX5_begin_15 rfl (lv_at hl 0 rfl) ?_
  refine lv_iconst (v := (-1 : Int32)) hx hb dX5_begin_16 (by decide) ?_
  refine va_put (D := D.1) (ci := 5) (v := .int (-1 : Int32)) (ty := .int) (C := RX5) (T := TX5) (N := 18) hx hb hts wi_X5 tyX5 tyX5_ok nmX5 hown X.1 X.2.1 X.2.2.1 X.2.2.2.1 0 rfl rfl 17 (by decide) (hts _ q3_68) (fun _ h9 => h9) rfl (by decide +kernel) rfl rfl (by rw [List.length_map, List.length_range]; decide) dX5_begin_17 (fun H locs hP hD hS => ?_)
  have X : Hx D (tX5 yT ++ (tX4 yP0 ++ (tX0 yP1))) A s H locs (wX5 hT aT yT (sI (sI (sR (sR gT 14 (some hP0)) 15 (some hP1)) 16 (-1 : Int32)) 17 (-1 : Int32)) ++ (wX4 hP0 aP0 yP0 gP0 ++ (wX0 hP1 aP1 yP1 gP1))) := Hx_set X (set_l (by rw [wG_len (m := 5) rfl]; decide) (wG_sI (k := 17) rfl)) hP hD hS
  have hq := Option.some.inj hF
  subst hq
  exact rt_v C X dX5_begin_20

/-! ### X5_refuse -/
theorem dX5_refuse_0 : decode cX5_refuse 0 = .ok (.aload_n 0, 1) := by decide +kernel
theorem dX5_refuse_1 : decode cX5_refuse 1 = .ok (.iload_n 2, 1) := by decide +kernel
theorem dX5_refuse_2 : decode cX5_refuse 2 = .ok (.putfield 54, 3) := by decide +kernel
theorem dX5_refuse_5 : decode cX5_refuse 5 = .ok (.iload_n 1, 1) := by decide +kernel
theorem dX5_refuse_6 : decode cX5_refuse 6 = .ok (.ireturn, 1) := by decide +kernel
abbrev R_X5_refuse : Room := ({ frames := 0, cells := 0, slots := 0, locals := 0 } : Room)
def f_X5_refuse (gT : Gs) (x0 : Int32) (x1 : Int32) : Option (Int32 × Gs) :=
  some (x0, (sI gT 17 x1))
set_option maxHeartbeats 4000000 in
set_option maxRecDepth 100000 in
theorem c_X5_refuse (l : Launch) (D : Dx) (hT : Nat) (aT : Nat → Nat) (yT : Nat → ClassId) (gT : Gs) (x0 : Int32) (x1 : Int32) (q : Int32 × Gs) (hF : f_X5_refuse gT x0 x1 = some q) (sz : Nat) : Met l yX5_refuse (ws_ yX5_refuse cX5_refuse 3 (some .int)) R_X5_refuse (PC D (tX5 yT) [.ref hT, .int x0, .int x1] (wX5 hT aT yT gT) sz) (QI D (va_A (wX5 hT aT yT gT) sz) (wX5 hT aT yT q.2) q.1) 0 0 (va_A (wX5 hT aT yT gT) sz) := by
  refine Met.ofW (cc := cX5_refuse) (maxL := 3) (ret := (some .int)) (by decide) rfl ?_
  intro p e s m args below meth c s₁ B hml hv
  obtain ⟨rfl, hsz, hP, hK, hD, hN⟩ := hv
  subst hsz
  have C : Cx p s m _ meth c cX5_refuse (some .int) 3 RX5 lw_all := Cx_of B hml
  have X := Hx_start hP hK hD hN
  obtain ⟨hx, hb, hr, -, hown, hts, hlk⟩ := id C
  generalize va_A (wX5 hT aT yT gT) s.heap.size = A at X ⊢
  have hl := lv_entry ([.ref hT, .int x0, .int x1]) (n := 3) (Nat.le_of_ble_eq_true rfl)
  rw [lg_entry_eq]
  generalize (lg_sl ([.ref hT, .int x0, .int x1]) ++ List.replicate (3 - (lg_sl ([.ref hT, .int x0, .int x1])).length) Slot.unset).toArray = ls at hl ⊢
  have hl : lv_has ls 3 [(0, .ref hT), (1, .int x0), (2, .int x1)] := hl
  unfold f_X5_refuse at hF
  refine lv_aload_n hx hb dX5_refuse_0 rfl (lv_at hl 0 rfl) ?_
  refine lv_iload_n hx hb dX5_refuse_1 rfl (lv_at hl 2 rfl) ?_
  refine va_put (D := D.1) (ci := 5) (v := .int x1) (ty := .int) (C := RX5) (T := TX5) (N := 18) hx hb hts wi_X5 tyX5 tyX5_ok nmX5 hown X.1 X.2.1 X.2.2.1 X.2.2.2.1 0 rfl rfl 17 (by decide) (hts _ q3_68) (fun _ h9 => h9) rfl (by decide +kernel) rfl rfl (by rw [List.length_map, List.length_range]; decide) dX5_refuse_2 (fun H locs hP hD hS => ?_)
  have X : Hx D (tX5 yT) A s H locs (wX5 hT aT yT (sI gT 17 x1)) := Hx_set X (wG_sI (k := 17) rfl) hP hD hS
  refine lv_iload_n hx hb dX5_refuse_5 rfl (lv_at hl 1 rfl) ?_
  have hq := Option.some.inj hF
  subst hq
  exact rt_i C X dX5_refuse_6

/-! ### X5_noteTooMuch -/
theorem dX5_noteTooMuch_0 : decode cX5_noteTooMuch 0 = .ok (.aload_n 0, 1) := by decide +kernel
theorem dX5_noteTooMuch_1 : decode cX5_noteTooMuch 1 = .ok (.getfield 51, 3) := by decide +kernel
theorem dX5_noteTooMuch_4 : decode cX5_noteTooMuch 4 = .ok (.iconst (-1), 1) := by decide +kernel
theorem dX5_noteTooMuch_5 : decode cX5_noteTooMuch 5 = .ok (.if_icmp .ne 16, 3) := by decide +kernel
theorem dX5_noteTooMuch_8 : decode cX5_noteTooMuch 8 = .ok (.aload_n 0, 1) := by decide +kernel
theorem dX5_noteTooMuch_9 : decode cX5_noteTooMuch 9 = .ok (.iload_n 1, 1) := by decide +kernel
theorem dX5_noteTooMuch_10 : decode cX5_noteTooMuch 10 = .ok (.putfield 51, 3) := by decide +kernel
theorem dX5_noteTooMuch_13 : decode cX5_noteTooMuch 13 = .ok (.aload_n 0, 1) := by decide +kernel
theorem dX5_noteTooMuch_14 : decode cX5_noteTooMuch 14 = .ok (.getfield 71, 3) := by decide +kernel
theorem dX5_noteTooMuch_17 : decode cX5_noteTooMuch 17 = .ok (.iconst 1, 1) := by decide +kernel
theorem dX5_noteTooMuch_18 : decode cX5_noteTooMuch 18 = .ok (.putfield 142, 3) := by decide +kernel
theorem dX5_noteTooMuch_21 : decode cX5_noteTooMuch 21 = .ok (.return_, 1) := by decide +kernel
abbrev R_X5_noteTooMuch : Room := ({ frames := 0, cells := 0, slots := 0, locals := 0 } : Room)
def f_X5_noteTooMuch (hT_15 : Nat) (gT : Gs) (gT_15 : Gs) (x0 : Int32) : Option (Gs × Gs) :=
  if (gI gT 16) = (-1 : Int32) then (grd (rEq (gR gT 15) hT_15) (some ((sI gT 16 x0), (sI gT_15 10 (1 : Int32))))) else (some (gT, gT_15))
set_option maxHeartbeats 4000000 in
set_option maxRecDepth 100000 in
theorem c_X5_noteTooMuch (l : Launch) (D : Dx) (hT : Nat) (aT : Nat → Nat) (yT : Nat → ClassId) (hT_15 : Nat) (aT_15 : Nat → Nat) (yT_15 : Nat → ClassId) (gT : Gs) (gT_15 : Gs) (x0 : Int32) (q : Gs × Gs) (hF : f_X5_noteTooMuch hT_15 gT gT_15 x0 = some q) (sz : Nat) : Met l yX5_noteTooMuch (ws_ yX5_noteTooMuch cX5_noteTooMuch 2 none) R_X5_noteTooMuch (PC D (tX5 yT ++ (tX0 yT_15)) [.ref hT, .int x0] (wX5 hT aT yT gT ++ (wX0 hT_15 aT_15 yT_15 gT_15)) sz) (QV D (va_A (wX5 hT aT yT gT ++ (wX0 hT_15 aT_15 yT_15 gT_15)) sz) (wX5 hT aT yT q.1 ++ (wX0 hT_15 aT_15 yT_15 q.2))) 0 0 (va_A (wX5 hT aT yT gT ++ (wX0 hT_15 aT_15 yT_15 gT_15)) sz) := by
  refine Met.ofW (cc := cX5_noteTooMuch) (maxL := 2) (ret := none) (by decide) rfl ?_
  intro p e s m args below meth c s₁ B hml hv
  obtain ⟨rfl, hsz, hP, hK, hD, hN⟩ := hv
  subst hsz
  have C : Cx p s m _ meth c cX5_noteTooMuch none 2 RX5 lw_all := Cx_of B hml
  have X := Hx_start hP hK hD hN
  obtain ⟨hx, hb, hr, -, hown, hts, hlk⟩ := id C
  generalize va_A (wX5 hT aT yT gT ++ (wX0 hT_15 aT_15 yT_15 gT_15)) s.heap.size = A at X ⊢
  have hl := lv_entry ([.ref hT, .int x0]) (n := 2) (Nat.le_of_ble_eq_true rfl)
  rw [lg_entry_eq]
  generalize (lg_sl ([.ref hT, .int x0]) ++ List.replicate (2 - (lg_sl ([.ref hT, .int x0])).length) Slot.unset).toArray = ls at hl ⊢
  have hl : lv_has ls 2 [(0, .ref hT), (1, .int x0)] := hl
  unfold f_X5_noteTooMuch at hF
  refine lv_aload_n hx hb dX5_noteTooMuch_0 rfl (lv_at hl 0 rfl) ?_
  refine va_get (D := D.1) (ci := 5) (v := .int (gI gT 16)) (C := RX5) (T := TX5) (N := 18) hx hb hts wi_X5 hown X.1 X.2.1 0 rfl rfl 16 (by decide) (hts _ q3_67) (fun _ h9 => h9) (fl_get (by decide)) dX5_noteTooMuch_1 ?_
  refine lv_iconst (v := (-1 : Int32)) hx hb dX5_noteTooMuch_4 (by decide) ?_
  refine lv_icmp_ne (tgt := 21) hx hb dX5_noteTooMuch_5 (by decide) (fun c => ?_) (fun c => ?_)
  · replace hF := iF c hF
    have hq := Option.some.inj hF
    subst hq
    exact rt_v C X dX5_noteTooMuch_21
  · replace hF := iT c hF
    refine lv_aload_n hx hb dX5_noteTooMuch_8 rfl (lv_at hl 0 rfl) ?_
    refine lv_iload_n hx hb dX5_noteTooMuch_9 rfl (lv_at hl 1 rfl) ?_
    refine va_put (D := D.1) (ci := 5) (v := .int x0) (ty := .int) (C := RX5) (T := TX5) (N := 18) hx hb hts wi_X5 tyX5 tyX5_ok nmX5 hown X.1 X.2.1 X.2.2.1 X.2.2.2.1 0 rfl rfl 16 (by decide) (hts _ q3_67) (fun _ h9 => h9) rfl (by decide +kernel) rfl rfl (by rw [List.length_map, List.length_range]; decide) dX5_noteTooMuch_10 (fun H locs hP hD hS => ?_)
    have X : Hx D (tX5 yT ++ (tX0 yT_15)) A s H locs (wX5 hT aT yT (sI gT 16 x0) ++ (wX0 hT_15 aT_15 yT_15 gT_15)) := Hx_set X (set_l (by rw [wG_len (m := 5) rfl]; decide) (wG_sI (k := 16) rfl)) hP hD hS
    refine lv_aload_n hx hb dX5_noteTooMuch_13 rfl (lv_at hl 0 rfl) ?_
    obtain ⟨h_1, hF⟩ := grd_some hF
    refine va_get (D := D.1) (ci := 5) (v := .ref hT_15) (C := RX5) (T := TX5) (N := 18) hx hb hts wi_X5 hown X.1 X.2.1 0 rfl rfl 15 (by decide) (hts _ q3_66) (fun _ h9 => h9) ((fl_get (by decide)).trans (rf_eq h_1)) dX5_noteTooMuch_14 ?_
    refine lv_iconst (v := (1 : Int32)) hx hb dX5_noteTooMuch_17 (by decide) ?_
    refine va_putN (D := D.1) (ci := 0) (v := .int (1 : Int32)) (ty := .boolean) (C := RX0) (T := TX0) (N := 19) hx hb hts wi_X0 tyX0 tyX0_ok nmX0 hown X.1 X.2.1 X.2.2.1 X.2.2.2.1 5 rfl rfl 10 (by decide) (X.2.2.2.2.2.1.use q2_3 rfl) (fun _ h9 => h9) rfl (by decide +kernel) rfl rfl (by rw [List.length_map, List.length_range]; decide) dX5_noteTooMuch_18 (fun H locs hP hD hS => ?_)
    have X : Hx D (tX5 yT ++ (tX0 yT_15)) A s H locs (wX5 hT aT yT (sI gT 16 x0) ++ (wX0 hT_15 aT_15 yT_15 (sI gT_15 10 (1 : Int32)))) := Hx_set X (set_r (n := 5) (i := 0) (j := 5) (wG_len rfl) rfl (wG_sI (k := 10) rfl)) hP hD hS
    have hq := Option.some.inj hF
    subst hq
    exact rt_v C X dX5_noteTooMuch_21

/-! ### X5_expect -/
theorem dX5_expect_0 : decode cX5_expect 0 = .ok (.aload_n 0, 1) := by decide +kernel
theorem dX5_expect_1 : decode cX5_expect 1 = .ok (.getfield 77, 3) := by decide +kernel
theorem dX5_expect_4 : decode cX5_expect 4 = .ok (.getfield 100, 3) := by decide +kernel
theorem dX5_expect_7 : decode cX5_expect 7 = .ok (.iload_n 1, 1) := by decide +kernel
theorem dX5_expect_8 : decode cX5_expect 8 = .ok (.if_icmp .eq 5, 3) := by decide +kernel
theorem dX5_expect_11 : decode cX5_expect 11 = .ok (.iconst 0, 1) := by decide +kernel
theorem dX5_expect_12 : decode cX5_expect 12 = .ok (.ireturn, 1) := by decide +kernel
theorem dX5_expect_13 : decode cX5_expect 13 = .ok (.aload_n 0, 1) := by decide +kernel
theorem dX5_expect_14 : decode cX5_expect 14 = .ok (.getfield 77, 3) := by decide +kernel
theorem dX5_expect_17 : decode cX5_expect 17 = .ok (.invokevirtual 145, 3) := by decide +kernel
theorem dX5_expect_20 : decode cX5_expect 20 = .ok (.iconst 1, 1) := by decide +kernel
theorem dX5_expect_21 : decode cX5_expect 21 = .ok (.ireturn, 1) := by decide +kernel
abbrev R_X5_expect : Room := ({ frames := 7, cells := 0, slots := 0, locals := 175 } : Room)
def f_X5_expect (n : Nat) (gT : Gs) (gT_0 : Gs) (gT_1 : Gs) (gT_1_1 : Gs) (x0 : Int32) : Option (Int32 × Gs) :=
  if (gI gT_1 4) = x0 then (bnd (f_X7_advance n gT_1 gT_0 gT_1_1) (fun q_1 => some ((1 : Int32), q_1))) else (some ((0 : Int32), gT_1))
set_option maxHeartbeats 4000000 in
set_option maxRecDepth 100000 in
theorem c_X5_expect (l : Launch) (D : Dx) (hT : Nat) (aT : Nat → Nat) (yT : Nat → ClassId) (aT_0 : Nat → Nat) (yT_0 : Nat → ClassId) (aT_1 : Nat → Nat) (yT_1 : Nat → ClassId) (aT_1_1 : Nat → Nat) (yT_1_1 : Nat → ClassId) (n : Nat) (gT : Gs) (gT_0 : Gs) (gT_1 : Gs) (gT_1_1 : Gs) (x0 : Int32) (q : Int32 × Gs) (hF : f_X5_expect n gT gT_0 gT_1 gT_1_1 x0 = some q) (sz : Nat) : Met l yX5_expect (ws_ yX5_expect cX5_expect 2 (some .boolean)) R_X5_expect (PC D (tX5 yT ++ (tTP yT_0 ++ (tX7 yT_1 ++ (tX6 yT_1_1)))) [.ref hT, .int x0] (wX5 hT aT yT gT ++ (wTP (aT 0) aT_0 yT_0 gT_0 ++ (wX7 (aT 1) (va_up aT_1 0 (aT 0)) yT_1 gT_1 ++ (wX6 ((va_up aT_1 0 (aT 0)) 1) aT_1_1 yT_1_1 gT_1_1)))) sz) (QI D (va_A (wX5 hT aT yT gT ++ (wTP (aT 0) aT_0 yT_0 gT_0 ++ (wX7 (aT 1) (va_up aT_1 0 (aT 0)) yT_1 gT_1 ++ (wX6 ((va_up aT_1 0 (aT 0)) 1) aT_1_1 yT_1_1 gT_1_1)))) sz) (wX5 hT aT yT gT ++ (wTP (aT 0) aT_0 yT_0 gT_0 ++ (wX7 (aT 1) (va_up aT_1 0 (aT 0)) yT_1 q.2 ++ (wX6 ((va_up aT_1 0 (aT 0)) 1) aT_1_1 yT_1_1 gT_1_1)))) q.1) 0 0 (va_A (wX5 hT aT yT gT ++ (wTP (aT 0) aT_0 yT_0 gT_0 ++ (wX7 (aT 1) (va_up aT_1 0 (aT 0)) yT_1 gT_1 ++ (wX6 ((va_up aT_1 0 (aT 0)) 1) aT_1_1 yT_1_1 gT_1_1)))) sz) := by
  refine Met.ofW (cc := cX5_expect) (maxL := 2) (ret := (some .boolean)) (by decide) rfl ?_
  intro p e s m args below meth c s₁ B hml hv
  obtain ⟨rfl, hsz, hP, hK, hD, hN⟩ := hv
  subst hsz
  have C : Cx p s m _ meth c cX5_expect (some .boolean) 2 RX5 lw_all := Cx_of B hml
  have X := Hx_start hP hK hD hN
  obtain ⟨hx, hb, hr, -, hown, hts, hlk⟩ := id C
  generalize va_A (wX5 hT aT yT gT ++ (wTP (aT 0) aT_0 yT_0 gT_0 ++ (wX7 (aT 1) (va_up aT_1 0 (aT 0)) yT_1 gT_1 ++ (wX6 ((va_up aT_1 0 (aT 0)) 1) aT_1_1 yT_1_1 gT_1_1)))) s.heap.size = A at X ⊢
  have hl := lv_entry ([.ref hT, .int x0]) (n := 2) (Nat.le_of_ble_eq_true rfl)
  rw [lg_entry_eq]
  generalize (lg_sl ([.ref hT, .int x0]) ++ List.replicate (2 - (lg_sl ([.ref hT, .int x0])).length) Slot.unset).toArray = ls at hl ⊢
  have hl : lv_has ls 2 [(0, .ref hT), (1, .int x0)] := hl
  unfold f_X5_expect at hF
  refine lv_aload_n hx hb dX5_expect_0 rfl (lv_at hl 0 rfl) ?_
  refine va_get (D := D.1) (ci := 5) (v := .ref (aT 1)) (C := RX5) (T := TX5) (N := 18) hx hb hts wi_X5 hown X.1 X.2.1 0 rfl rfl 1 (by decide) (hts _ q3_52) (fun _ h9 => h9) (fl_get (by decide)) dX5_expect_1 ?_
  refine va_getN (D := D.1) (ci := 7) (v := .int (gI gT_1 4)) (C := RX7) (T := TX7) (N := 12) hx hb hts wi_X7 hown X.1 X.2.1 6 rfl rfl 4 (by decide) (X.2.2.2.2.2.1.use q3_0 rfl) (fun _ h9 => h9) (fl_get (by decide)) dX5_expect_4 ?_
  refine lv_iload_n hx hb dX5_expect_7 rfl (lv_at hl 1 rfl) ?_
  refine lv_icmp_eq (tgt := 13) hx hb dX5_expect_8 (by decide) (fun c => ?_) (fun c => ?_)
  · replace hF := iT c hF
    refine lv_aload_n hx hb dX5_expect_13 rfl (lv_at hl 0 rfl) ?_
    refine va_get (D := D.1) (ci := 5) (v := .ref (aT 1)) (C := RX5) (T := TX5) (N := 18) hx hb hts wi_X5 hown X.1 X.2.1 0 rfl rfl 1 (by decide) (hts _ q3_52) (fun _ h9 => h9) (fl_get (by decide)) dX5_expect_14 ?_
    obtain ⟨q_1, hc_2, hF⟩ := bnd_some hF
    refine cV_v (As := []) (rest := []) C X (c_X7_advance l D (aT 1) (va_up aT_1 0 (aT 0)) yT_1 aT_0 yT_0 aT_1_1 yT_1_1 n gT_1 gT_0 gT_1_1 q_1 hc_2 _) (cwV 0 hts (good_V q4_61 q3_131 q3_132 q1_12 q3_133) rfl rfl rfl (by decide +kernel) ⟨Nat.le_of_ble_eq_true rfl, Nat.le_of_ble_eq_true rfl⟩) (va_recv X.1 X.2.1 (ci := 7) (q0 := 6) rfl rfl) (X.1.sub (tys' := tX7 yT_1 ++ (tTP yT_0 ++ (tX6 yT_1_1))) [4, 5] rfl) (X.2.1.sub (ws' := wX7 (aT 1) (va_up aT_1 0 (aT 0)) yT_1 gT_1 ++ (wTP (aT 0) aT_0 yT_0 gT_0 ++ (wX6 ((va_up aT_1 0 (aT 0)) 1) aT_1_1 yT_1_1 gT_1_1))) [6, 5, 7, 8] rfl) (X.2.2.1.sub (ws' := wX7 (aT 1) (va_up aT_1 0 (aT 0)) yT_1 gT_1 ++ (wTP (aT 0) aT_0 yT_0 gT_0 ++ (wX6 ((va_up aT_1 0 (aT 0)) 1) aT_1_1 yT_1_1 gT_1_1))) [6, 5, 7, 8] (by decide) rfl) (free_of (wC := wX7 (aT 1) (va_up aT_1 0 (aT 0)) yT_1 gT_1 ++ (wTP (aT 0) aT_0 yT_0 gT_0 ++ (wX6 ((va_up aT_1 0 (aT 0)) 1) aT_1_1 yT_1_1 gT_1_1))) (isC := [6, 5, 7, 8]) X rfl) hl.1 rfl rfl (Nat.le_of_ble_eq_true rfl) dX5_expect_17 ⟨Nat.le_of_ble_eq_true rfl, Nat.le_of_ble_eq_true rfl⟩ (fun t H1 locs1 ht hB hk hS => ?_)
    have X : Hx D (tX5 yT ++ (tTP yT_0 ++ (tX7 yT_1 ++ (tX6 yT_1_1)))) A s H1 locs1 (wX5 hT aT yT gT ++ (wTP (aT 0) aT_0 yT_0 gT_0 ++ (wX7 (aT 1) (va_up aT_1 0 (aT 0)) yT_1 q_1 ++ (wX6 ((va_up aT_1 0 (aT 0)) 1) aT_1_1 yT_1_1 gT_1_1)))) := Hx_after (isC := [6, 5, 7, 8]) (isR := [0, 1, 2, 3, 4]) (pm := [0, 1, 2, 3, 4, 6, 5, 7, 8]) (wr := wX5 hT aT yT gT) X ⟨rfl, rfl, by decide, by decide, rfl, by decide⟩ ht hB hk hS
    clear hk hS ht hB
    generalize H1 = H at X ⊢
    generalize locs1 = locs at X ⊢
    refine lv_iconst (v := (1 : Int32)) hx hb dX5_expect_20 (by decide) ?_
    have hq := Option.some.inj hF
    subst hq
    exact rt_z (v := (1 : Int32)) C X (by decide) dX5_expect_21
  · replace hF := iF c hF
    refine lv_iconst (v := (0 : Int32)) hx hb dX5_expect_11 (by decide) ?_
    have hq := Option.some.inj hF
    subst hq
    exact rt_z (v := (0 : Int32)) C X (by decide) dX5_expect_12

/-! ### X5_tell -/
theorem dX5_tell_0 : decode cX5_tell 0 = .ok (.iload_n 2, 1) := by decide +kernel
theorem dX5_tell_1 : decode cX5_tell 1 = .ok (.iload_n 3, 1) := by decide +kernel
theorem dX5_tell_2 : decode cX5_tell 2 = .ok (.if_icmp .ge 7, 3) := by decide +kernel
theorem dX5_tell_5 : decode cX5_tell 5 = .ok (.iload_n 2, 1) := by decide +kernel
theorem dX5_tell_6 : decode cX5_tell 6 = .ok (.goto 4, 3) := by decide +kernel
theorem dX5_tell_9 : decode cX5_tell 9 = .ok (.iconst (-1), 1) := by decide +kernel
theorem dX5_tell_10 : decode cX5_tell 10 = .ok (.istore 4, 2) := by decide +kernel
theorem dX5_tell_12 : decode cX5_tell 12 = .ok (.iload 4, 2) := by decide +kernel
theorem dX5_tell_14 : decode cX5_tell 14 = .ok (.iconst (-1), 1) := by decide +kernel
theorem dX5_tell_15 : decode cX5_tell 15 = .ok (.if_icmp .ne 17, 3) := by decide +kernel
theorem dX5_tell_18 : decode cX5_tell 18 = .ok (.aload_n 0, 1) := by decide +kernel
theorem dX5_tell_19 : decode cX5_tell 19 = .ok (.aload_n 0, 1) := by decide +kernel
theorem dX5_tell_20 : decode cX5_tell 20 = .ok (.getfield 77, 3) := by decide +kernel
theorem dX5_tell_23 : decode cX5_tell 23 = .ok (.getfield 114, 3) := by decide +kernel
theorem dX5_tell_26 : decode cX5_tell 26 = .ok (.invokevirtual 148, 3) := by decide +kernel
theorem dX5_tell_29 : decode cX5_tell 29 = .ok (.goto 32, 3) := by decide +kernel
theorem dX5_tell_32 : decode cX5_tell 32 = .ok (.aload_n 0, 1) := by decide +kernel
theorem dX5_tell_33 : decode cX5_tell 33 = .ok (.getfield 61, 3) := by decide +kernel
theorem dX5_tell_36 : decode cX5_tell 36 = .ok (.iload_n 1, 1) := by decide +kernel
theorem dX5_tell_37 : decode cX5_tell 37 = .ok (.iload 4, 2) := by decide +kernel
theorem dX5_tell_39 : decode cX5_tell 39 = .ok (.iadd, 1) := by decide +kernel
theorem dX5_tell_40 : decode cX5_tell 40 = .ok (.aload_n 0, 1) := by decide +kernel
theorem dX5_tell_41 : decode cX5_tell 41 = .ok (.getfield 57, 3) := by decide +kernel
theorem dX5_tell_44 : decode cX5_tell 44 = .ok (.aload_n 0, 1) := by decide +kernel
theorem dX5_tell_45 : decode cX5_tell 45 = .ok (.getfield 77, 3) := by decide +kernel
theorem dX5_tell_48 : decode cX5_tell 48 = .ok (.getfield 114, 3) := by decide +kernel
theorem dX5_tell_51 : decode cX5_tell 51 = .ok (.aload_n 0, 1) := by decide +kernel
theorem dX5_tell_52 : decode cX5_tell 52 = .ok (.getfield 77, 3) := by decide +kernel
theorem dX5_tell_55 : decode cX5_tell 55 = .ok (.getfield 151, 3) := by decide +kernel
theorem dX5_tell_58 : decode cX5_tell 58 = .ok (.invokevirtual 154, 3) := by decide +kernel
theorem dX5_tell_61 : decode cX5_tell 61 = .ok (.aload_n 0, 1) := by decide +kernel
theorem dX5_tell_62 : decode cX5_tell 62 = .ok (.getfield 77, 3) := by decide +kernel
theorem dX5_tell_65 : decode cX5_tell 65 = .ok (.invokevirtual 145, 3) := by decide +kernel
theorem dX5_tell_68 : decode cX5_tell 68 = .ok (.iload 4, 2) := by decide +kernel
theorem dX5_tell_70 : decode cX5_tell 70 = .ok (.ireturn, 1) := by decide +kernel
abbrev R_X5_tell : Room := ({ frames := 7, cells := 0, slots := 0, locals := 175 } : Room)
def b_X5_tell_61 (n : Nat) (hT_14 : Nat) (hT_15 : Nat) (gT : Gs) (gT_0 : Gs) (gT_1 : Gs) (gT_1_1 : Gs) (gT_14 : Gs) (gT_15 : Gs) (v4 : Int32) : Option (Int32 × Gs × Gs × Gs × Gs) :=
  bnd (f_X7_advance n gT_1 gT_0 gT_1_1) (fun q_4 => some (v4, gT, q_4, gT_14, gT_15))
def b_X5_tell_10 (n : Nat) (hT_14 : Nat) (hT_15 : Nat) (gT : Gs) (gT_0 : Gs) (gT_1 : Gs) (gT_1_1 : Gs) (gT_14 : Gs) (gT_15 : Gs) (v1 : Int32) (s0 : Int32) : Option (Int32 × Gs × Gs × Gs × Gs) :=
  if s0 = (-1 : Int32) then (bnd (f_X5_noteTooMuch hT_15 gT gT_15 (gI gT_1 5)) (fun q_6 => b_X5_tell_61 n hT_14 hT_15 q_6.1 gT_0 gT_1 gT_1_1 gT_14 q_6.2 s0)) else (grd (rEq (gR gT 14) hT_14) (bnd (f_X4_putName gT_14 gT_0 (v1 + s0) (gI gT_1 5) (gI gT_1 6)) (fun q_2 => b_X5_tell_61 n hT_14 hT_15 gT gT_0 gT_1 gT_1_1 q_2 gT_15 s0)))
def f_X5_tell (n : Nat) (hT_14 : Nat) (hT_15 : Nat) (gT : Gs) (gT_0 : Gs) (gT_1 : Gs) (gT_1_1 : Gs) (gT_14 : Gs) (gT_15 : Gs) (x0 : Int32) (x1 : Int32) (x2 : Int32) : Option (Int32 × Gs × Gs × Gs × Gs) :=
  if x2 ≤ x1 then (b_X5_tell_10 n hT_14 hT_15 gT gT_0 gT_1 gT_1_1 gT_14 gT_15 x0 (-1 : Int32)) else (b_X5_tell_10 n hT_14 hT_15 gT gT_0 gT_1 gT_1_1 gT_14 gT_15 x0 x1)
def S_X5_tell_61 (l : Launch) (D : Dx) (hT : Nat) (aT : Nat → Nat) (yT : Nat → ClassId) (aT_0 : Nat → Nat) (yT_0 : Nat → ClassId) (aT_1 : Nat → Nat) (yT_1 : Nat → ClassId) (aT_1_1 : Nat → Nat) (yT_1_1 : Nat → ClassId) (hT_14 : Nat) (aT_14 : Nat → Nat) (yT_14 : Nat → ClassId) (hT_15 : Nat) (aT_15 : Nat → Nat) (yT_15 : Nat → ClassId) (fn : Gs → Gs → Gs → Gs → Gs → Gs → Int32 → Option (Int32 × Gs × Gs × Gs × Gs)) : Prop :=
  ∀ {p : Program} {e : Env} {s : State} {m : MethodId} {args : Array Value} {below : List Frame} {meth : Method} {c : Code} {H : Heap} {locs : List Loc} {A : Nat → Prop} {ls : Array Slot} {gT : Gs} {gT_0 : Gs} {gT_1 : Gs} {gT_1_1 : Gs} {gT_14 : Gs} {gT_15 : Gs} {v4 : Int32} {q : Int32 × Gs × Gs × Gs × Gs}, Cx p s m args meth c cX5_tell (some .int) 5 RX5 lw_all → Hx D (tX5 yT ++ (tTP yT_0 ++ (tX7 yT_1 ++ (tX6 yT_1_1 ++ (tX4 yT_14 ++ (tX0 yT_15)))))) A s H locs (wX5 hT aT yT gT ++ (wTP (aT 0) aT_0 yT_0 gT_0 ++ (wX7 (aT 1) (va_up aT_1 0 (aT 0)) yT_1 gT_1 ++ (wX6 ((va_up aT_1 0 (aT 0)) 1) aT_1_1 yT_1_1 gT_1_1 ++ (wX4 hT_14 aT_14 yT_14 gT_14 ++ (wX0 hT_15 aT_15 yT_15 gT_15)))))) → lv_has ls 5 [(0, .ref hT), (4, .int v4)] → fn gT gT_0 gT_1 gT_1_1 gT_14 gT_15 v4 = some q → W p l e R_X5_tell s m args below meth c H locs 0 0 (MQ below (QI D A (wX5 hT aT yT q.2.1 ++ (wTP (aT 0) aT_0 yT_0 gT_0 ++ (wX7 (aT 1) (va_up aT_1 0 (aT 0)) yT_1 q.2.2.1 ++ (wX6 ((va_up aT_1 0 (aT 0)) 1) aT_1_1 yT_1_1 gT_1_1 ++ (wX4 hT_14 aT_14 yT_14 q.2.2.2.1 ++ (wX0 hT_15 aT_15 yT_15 q.2.2.2.2)))))) q.1) args s 0 0 A) (F0 m 61 ls [])
def S_X5_tell_10 (l : Launch) (D : Dx) (hT : Nat) (aT : Nat → Nat) (yT : Nat → ClassId) (aT_0 : Nat → Nat) (yT_0 : Nat → ClassId) (aT_1 : Nat → Nat) (yT_1 : Nat → ClassId) (aT_1_1 : Nat → Nat) (yT_1_1 : Nat → ClassId) (hT_14 : Nat) (aT_14 : Nat → Nat) (yT_14 : Nat → ClassId) (hT_15 : Nat) (aT_15 : Nat → Nat) (yT_15 : Nat → ClassId) (fn : Gs → Gs → Gs → Gs → Gs → Gs → Int32 → Int32 → Option (Int32 × Gs × Gs × Gs × Gs)) : Prop :=
  ∀ {p : Program} {e : Env} {s : State} {m : MethodId} {args : Array Value} {below : List Frame} {meth : Method} {c : Code} {H : Heap} {locs : List Loc} {A : Nat → Prop} {ls : Array Slot} {gT : Gs} {gT_0 : Gs} {gT_1 : Gs} {gT_1_1 : Gs} {gT_14 : Gs} {gT_15 : Gs} {v1 : Int32} {s0 : Int32} {q : Int32 × Gs × Gs × Gs × Gs}, Cx p s m args meth c cX5_tell (some .int) 5 RX5 lw_all → Hx D (tX5 yT ++ (tTP yT_0 ++ (tX7 yT_1 ++ (tX6 yT_1_1 ++ (tX4 yT_14 ++ (tX0 yT_15)))))) A s H locs (wX5 hT aT yT gT ++ (wTP (aT 0) aT_0 yT_0 gT_0 ++ (wX7 (aT 1) (va_up aT_1 0 (aT 0)) yT_1 gT_1 ++ (wX6 ((va_up aT_1 0 (aT 0)) 1) aT_1_1 yT_1_1 gT_1_1 ++ (wX4 hT_14 aT_14 yT_14 gT_14 ++ (wX0 hT_15 aT_15 yT_15 gT_15)))))) → lv_has ls 5 [(0, .ref hT), (1, .int v1)] → fn gT gT_0 gT_1 gT_1_1 gT_14 gT_15 v1 s0 = some q → W p l e R_X5_tell s m args below meth c H locs 0 0 (MQ below (QI D A (wX5 hT aT yT q.2.1 ++ (wTP (aT 0) aT_0 yT_0 gT_0 ++ (wX7 (aT 1) (va_up aT_1 0 (aT 0)) yT_1 q.2.2.1 ++ (wX6 ((va_up aT_1 0 (aT 0)) 1) aT_1_1 yT_1_1 gT_1_1 ++ (wX4 hT_14 aT_14 yT_14 q.2.2.2.1 ++ (wX0 hT_15 aT_15 yT_15 q.2.2.2.2)))))) q.1) args s 0 0 A) (F0 m 10 ls [.int s0])
set_option maxHeartbeats 4000000 in
set_option maxRecDepth 100000 in
theorem k_X5_tell_61 (l : Launch) (D : Dx) (hT : Nat) (aT : Nat → Nat) (yT : Nat → ClassId) (aT_0 : Nat → Nat) (yT_0 : Nat → ClassId) (aT_1 : Nat → Nat) (yT_1 : Nat → ClassId) (aT_1_1 : Nat → Nat) (yT_1_1 : Nat → ClassId) (hT_14 : Nat) (aT_14 : Nat → Nat) (yT_14 : Nat → ClassId) (hT_15 : Nat) (aT_15 : Nat → Nat) (yT_15 : Nat → ClassId) (n : Nat) : S_X5_tell_61 l D hT aT yT aT_0 yT_0 aT_1 yT_1 aT_1_1 yT_1_1 hT_14 aT_14 yT_14 hT_15 aT_15 yT_15 (b_X5_tell_61 n hT_14 hT_15) := by
  intro p e s m args below meth c H locs A ls gT gT_0 gT_1 gT_1_1 gT_14 gT_15 v4 q C X hl hF
  obtain ⟨hx, hb, hr, hml, hown, hts, hlk⟩ := id C
  unfold b_X5_tell_61 at hF
  refine lv_aload_n hx hb dX5_tell_61 rfl (lv_at hl 0 rfl) ?_
  refine va_get (D := D.1) (ci := 5) (v := .ref (aT 1)) (C := RX5) (T := TX5) (N := 18) hx hb hts wi_X5 hown X.1 X.2.1 0 rfl rfl 1 (by decide) (hts _ q3_52) (fun _ h9 => h9) (fl_get (by decide)) dX5_tell_62 ?_
  obtain ⟨q_4, hc_5, hF⟩ := bnd_some hF
  refine cV_v (As := []) (rest := []) C X (c_X7_advance l D (aT 1) (va_up aT_1 0 (aT 0)) yT_1 aT_0 yT_0 aT_1_1 yT_1_1 n gT_1 gT_0 gT_1_1 q_4 hc_5 _) (cwV 0 hts (good_V q4_61 q3_131 q3_132 q1_12 q3_133) rfl rfl rfl (by decide +kernel) ⟨Nat.le_of_ble_eq_true rfl, Nat.le_of_ble_eq_true rfl⟩) (va_recv X.1 X.2.1 (ci := 7) (q0 := 6) rfl rfl) (X.1.sub (tys' := tX7 yT_1 ++ (tTP yT_0 ++ (tX6 yT_1_1))) [4, 5] rfl) (X.2.1.sub (ws' := wX7 (aT 1) (va_up aT_1 0 (aT 0)) yT_1 gT_1 ++ (wTP (aT 0) aT_0 yT_0 gT_0 ++ (wX6 ((va_up aT_1 0 (aT 0)) 1) aT_1_1 yT_1_1 gT_1_1))) [6, 5, 7, 8] rfl) (X.2.2.1.sub (ws' := wX7 (aT 1) (va_up aT_1 0 (aT 0)) yT_1 gT_1 ++ (wTP (aT 0) aT_0 yT_0 gT_0 ++ (wX6 ((va_up aT_1 0 (aT 0)) 1) aT_1_1 yT_1_1 gT_1_1))) [6, 5, 7, 8] (by decide) rfl) (free_of (wC := wX7 (aT 1) (va_up aT_1 0 (aT 0)) yT_1 gT_1 ++ (wTP (aT 0) aT_0 yT_0 gT_0 ++ (wX6 ((va_up aT_1 0 (aT 0)) 1) aT_1_1 yT_1_1 gT_1_1))) (isC := [6, 5, 7, 8]) X rfl) hl.1 rfl rfl (Nat.le_of_ble_eq_true rfl) dX5_tell_65 ⟨Nat.le_of_ble_eq_true rfl, Nat.le_of_ble_eq_true rfl⟩ (fun t H1 locs1 ht hB hk hS => ?_)
  have X : Hx D (tX5 yT ++ (tTP yT_0 ++ (tX7 yT_1 ++ (tX6 yT_1_1 ++ (tX4 yT_14 ++ (tX0 yT_15)))))) A s H1 locs1 (wX5 hT aT yT gT ++ (wTP (aT 0) aT_0 yT_0 gT_0 ++ (wX7 (aT 1) (va_up aT_1 0 (aT 0)) yT_1 q_4 ++ (wX6 ((va_up aT_1 0 (aT 0)) 1) aT_1_1 yT_1_1 gT_1_1 ++ (wX4 hT_14 aT_14 yT_14 gT_14 ++ (wX0 hT_15 aT_15 yT_15 gT_15)))))) := Hx_after (isC := [6, 5, 7, 8]) (isR := [0, 1, 2, 3, 4, 9, 10, 11, 12, 13, 14, 15, 16, 17, 18, 19, 20, 21, 22, 23, 24, 25, 26, 27, 28, 29, 30, 31, 32, 33, 34, 35]) (pm := [0, 1, 2, 3, 4, 33, 32, 34, 35, 5, 6, 7, 8, 9, 10, 11, 12, 13, 14, 15, 16, 17, 18, 19, 20, 21, 22, 23, 24, 25, 26, 27, 28, 29, 30, 31]) (wr := wX5 hT aT yT gT ++ (wX4 hT_14 aT_14 yT_14 gT_14 ++ (wX0 hT_15 aT_15 yT_15 gT_15))) X ⟨rfl, rfl, by decide, by decide, rfl, by decide⟩ ht hB hk hS
  clear hk hS ht hB
  generalize H1 = H at X ⊢
  generalize locs1 = locs at X ⊢
  refine lv_iload hx hb dX5_tell_68 (lv_at hl 1 rfl) ?_
  have hq := Option.some.inj hF
  subst hq
  exact rt_i C X dX5_tell_70
set_option maxHeartbeats 4000000 in
set_option maxRecDepth 100000 in
theorem k_X5_tell_10 (l : Launch) (D : Dx) (hT : Nat) (aT : Nat → Nat) (yT : Nat → ClassId) (aT_0 : Nat → Nat) (yT_0 : Nat → ClassId) (aT_1 : Nat → Nat) (yT_1 : Nat → ClassId) (aT_1_1 : Nat → Nat) (yT_1_1 : Nat → ClassId) (hT_14 : Nat) (aT_14 : Nat → Nat) (yT_14 : Nat → ClassId) (hT_15 : Nat) (aT_15 : Nat → Nat) (yT_15 : Nat → ClassId) (n : Nat) : S_X5_tell_10 l D hT aT yT aT_0 yT_0 aT_1 yT_1 aT_1_1 yT_1_1 hT_14 aT_14 yT_14 hT_15 aT_15 yT_15 (b_X5_tell_10 n hT_14 hT_15) := by
  intro p e s m args below meth c H locs A ls gT gT_0 gT_1 gT_1_1 gT_14 gT_15 v1 s0 q C X hl hF
  obtain ⟨hx, hb, hr, hml, hown, hts, hlk⟩ := id C
  unfold b_X5_tell_10 at hF
  refine lv_istore (lv' := [(4, .int s0), (0, .ref hT), (1, .int v1)]) hx hb dX5_tell_10 hl (by decide) rfl (fun ls hl => ?_)
  refine lv_iload hx hb dX5_tell_12 (lv_at hl 0 rfl) ?_
  refine lv_iconst (v := (-1 : Int32)) hx hb dX5_tell_14 (by decide) ?_
  refine lv_icmp_ne (tgt := 32) hx hb dX5_tell_15 (by decide) (fun c => ?_) (fun c => ?_)
  · replace hF := iF c hF
    refine lv_aload_n hx hb dX5_tell_32 rfl (lv_at hl 1 rfl) ?_
    obtain ⟨h_1, hF⟩ := grd_some hF
    refine va_get (D := D.1) (ci := 5) (v := .ref hT_14) (C := RX5) (T := TX5) (N := 18) hx hb hts wi_X5 hown X.1 X.2.1 0 rfl rfl 14 (by decide) (hts _ q3_65) (fun _ h9 => h9) ((fl_get (by decide)).trans (rf_eq h_1)) dX5_tell_33 ?_
    refine lv_iload_n hx hb dX5_tell_36 rfl (lv_at hl 2 rfl) ?_
    refine lv_iload hx hb dX5_tell_37 (lv_at hl 0 rfl) ?_
    refine lv_iadd hx hb dX5_tell_39 ?_
    refine lv_aload_n hx hb dX5_tell_40 rfl (lv_at hl 1 rfl) ?_
    refine va_get (D := D.1) (ci := 5) (v := .ref (aT 0)) (C := RX5) (T := TX5) (N := 18) hx hb hts wi_X5 hown X.1 X.2.1 0 rfl rfl 0 (by decide) (hts _ q3_51) (fun _ h9 => h9) (fl_get (by decide)) dX5_tell_41 ?_
    refine lv_aload_n hx hb dX5_tell_44 rfl (lv_at hl 1 rfl) ?_
    refine va_get (D := D.1) (ci := 5) (v := .ref (aT 1)) (C := RX5) (T := TX5) (N := 18) hx hb hts wi_X5 hown X.1 X.2.1 0 rfl rfl 1 (by decide) (hts _ q3_52) (fun _ h9 => h9) (fl_get (by decide)) dX5_tell_45 ?_
    refine va_getN (D := D.1) (ci := 7) (v := .int (gI gT_1 5)) (C := RX7) (T := TX7) (N := 12) hx hb hts wi_X7 hown X.1 X.2.1 6 rfl rfl 5 (by decide) (X.2.2.2.2.2.1.use q3_2 rfl) (fun _ h9 => h9) (fl_get (by decide)) dX5_tell_48 ?_
    refine lv_aload_n hx hb dX5_tell_51 rfl (lv_at hl 1 rfl) ?_
    refine va_get (D := D.1) (ci := 5) (v := .ref (aT 1)) (C := RX5) (T := TX5) (N := 18) hx hb hts wi_X5 hown X.1 X.2.1 0 rfl rfl 1 (by decide) (hts _ q3_52) (fun _ h9 => h9) (fl_get (by decide)) dX5_tell_52 ?_
    refine va_getN (D := D.1) (ci := 7) (v := .int (gI gT_1 6)) (C := RX7) (T := TX7) (N := 12) hx hb hts wi_X7 hown X.1 X.2.1 6 rfl rfl 6 (by decide) (X.2.2.2.2.2.1.use q3_4 rfl) (fun _ h9 => h9) (fl_get (by decide)) dX5_tell_55 ?_
    obtain ⟨q_2, hc_3, hF⟩ := bnd_some hF
    refine cV_v (As := [.int (v1 + s0), .ref (aT 0), .int (gI gT_1 5), .int (gI gT_1 6)]) (rest := []) C X (c_X4_putName l D hT_14 aT_14 yT_14 (aT 0) aT_0 yT_0 gT_14 gT_0 (v1 + s0) (gI gT_1 5) (gI gT_1 6) q_2 hc_3 _) (cwV 4 hts (good_V q4_70 q4_71 q4_72 q1_7 q4_73) rfl rfl rfl (by decide +kernel) ⟨Nat.le_of_ble_eq_true rfl, Nat.le_of_ble_eq_true rfl⟩) (va_recv X.1 X.2.1 (ci := 4) (q0 := 9) rfl rfl) (X.1.sub (tys' := tX4 yT_14 ++ (tTP yT_0)) [6, 7, 8, 9, 10, 11, 12, 13, 14, 15, 4] rfl) (X.2.1.sub (ws' := wX4 hT_14 aT_14 yT_14 gT_14 ++ (wTP (aT 0) aT_0 yT_0 gT_0)) [9, 10, 11, 12, 13, 14, 15, 16, 17, 18, 19, 5] rfl) (X.2.2.1.sub (ws' := wX4 hT_14 aT_14 yT_14 gT_14 ++ (wTP (aT 0) aT_0 yT_0 gT_0)) [9, 10, 11, 12, 13, 14, 15, 16, 17, 18, 19, 5] (by decide) rfl) (free_of (wC := wX4 hT_14 aT_14 yT_14 gT_14 ++ (wTP (aT 0) aT_0 yT_0 gT_0)) (isC := [9, 10, 11, 12, 13, 14, 15, 16, 17, 18, 19, 5]) X rfl) hl.1 rfl rfl (Nat.le_of_ble_eq_true rfl) dX5_tell_58 ⟨Nat.le_of_ble_eq_true rfl, Nat.le_of_ble_eq_true rfl⟩ (fun t H1 locs1 ht hB hk hS => ?_)
    have X : Hx D (tX5 yT ++ (tTP yT_0 ++ (tX7 yT_1 ++ (tX6 yT_1_1 ++ (tX4 yT_14 ++ (tX0 yT_15)))))) A s H1 locs1 (wX5 hT aT yT gT ++ (wTP (aT 0) aT_0 yT_0 gT_0 ++ (wX7 (aT 1) (va_up aT_1 0 (aT 0)) yT_1 gT_1 ++ (wX6 ((va_up aT_1 0 (aT 0)) 1) aT_1_1 yT_1_1 gT_1_1 ++ (wX4 hT_14 aT_14 yT_14 q_2 ++ (wX0 hT_15 aT_15 yT_15 gT_15)))))) := Hx_after (isC := [9, 10, 11, 12, 13, 14, 15, 16, 17, 18, 19, 5]) (isR := [0, 1, 2, 3, 4, 6, 7, 8, 20, 21, 22, 23, 24, 25, 26, 27, 28, 29, 30, 31, 32, 33, 34, 35]) (pm := [0, 1, 2, 3, 4, 35, 5, 6, 7, 24, 25, 26, 27, 28, 29, 30, 31, 32, 33, 34, 8, 9, 10, 11, 12, 13, 14, 15, 16, 17, 18, 19, 20, 21, 22, 23]) (wr := wX5 hT aT yT gT ++ (wX7 (aT 1) (va_up aT_1 0 (aT 0)) yT_1 gT_1 ++ (wX6 ((va_up aT_1 0 (aT 0)) 1) aT_1_1 yT_1_1 gT_1_1 ++ (wX0 hT_15 aT_15 yT_15 gT_15)))) X ⟨rfl, rfl, by decide, by decide, rfl, by decide⟩ ht hB hk hS
    clear hk hS ht hB
    generalize H1 = H at X ⊢
    generalize locs1 = locs at X ⊢
    exact (k_X5_tell_61 l D hT aT yT aT_0 yT_0 aT_1 yT_1 aT_1_1 yT_1_1 hT_14 aT_14 yT_14 hT_15 aT_15 yT_15 n) C X (lv_sub hl [1, 0] rfl) hF
  · replace hF := iT c hF
    refine lv_aload_n hx hb dX5_tell_18 rfl (lv_at hl 1 rfl) ?_
    refine lv_aload_n hx hb dX5_tell_19 rfl (lv_at hl 1 rfl) ?_
    refine va_get (D := D.1) (ci := 5) (v := .ref (aT 1)) (C := RX5) (T := TX5) (N := 18) hx hb hts wi_X5 hown X.1 X.2.1 0 rfl rfl 1 (by decide) (hts _ q3_52) (fun _ h9 => h9) (fl_get (by decide)) dX5_tell_20 ?_
    refine va_getN (D := D.1) (ci := 7) (v := .int (gI gT_1 5)) (C := RX7) (T := TX7) (N := 12) hx hb hts wi_X7 hown X.1 X.2.1 6 rfl rfl 5 (by decide) (X.2.2.2.2.2.1.use q3_2 rfl) (fun _ h9 => h9) (fl_get (by decide)) dX5_tell_23 ?_
    obtain ⟨q_6, hc_7, hF⟩ := bnd_some hF
    refine cV_v (As := [.int (gI gT_1 5)]) (rest := []) C X (c_X5_noteTooMuch l D hT aT yT hT_15 aT_15 yT_15 gT gT_15 (gI gT_1 5) q_6 hc_7 _) (cwV 1 hts (good_V q4_66 q4_68 q0_13 q1_10 q4_69) rfl rfl rfl (by decide +kernel) ⟨Nat.le_of_ble_eq_true rfl, Nat.le_of_ble_eq_true rfl⟩) (va_recv X.1 X.2.1 (ci := 5) (q0 := 0) rfl rfl) (X.1.sub (tys' := tX5 yT ++ (tX0 yT_15)) [0, 1, 2, 3, 16, 17, 18, 19, 20, 21, 22, 23, 24, 25, 26, 27, 28, 29, 30] rfl) (X.2.1.sub (ws' := wX5 hT aT yT gT ++ (wX0 hT_15 aT_15 yT_15 gT_15)) [0, 1, 2, 3, 4, 20, 21, 22, 23, 24, 25, 26, 27, 28, 29, 30, 31, 32, 33, 34, 35] rfl) (X.2.2.1.sub (ws' := wX5 hT aT yT gT ++ (wX0 hT_15 aT_15 yT_15 gT_15)) [0, 1, 2, 3, 4, 20, 21, 22, 23, 24, 25, 26, 27, 28, 29, 30, 31, 32, 33, 34, 35] (by decide) rfl) (free_of (wC := wX5 hT aT yT gT ++ (wX0 hT_15 aT_15 yT_15 gT_15)) (isC := [0, 1, 2, 3, 4, 20, 21, 22, 23, 24, 25, 26, 27, 28, 29, 30, 31, 32, 33, 34, 35]) X rfl) hl.1 rfl rfl (Nat.le_of_ble_eq_true rfl) dX5_tell_26 ⟨Nat.le_of_ble_eq_true rfl, Nat.le_of_ble_eq_true rfl⟩ (fun t H1 locs1 ht hB hk hS => ?_)
    have X : Hx D (tX5 yT ++ (tTP yT_0 ++ (tX7 yT_1 ++ (tX6 yT_1_1 ++ (tX4 yT_14 ++ (tX0 yT_15)))))) A s H1 locs1 (wX5 hT aT yT q_6.1 ++ (wTP (aT 0) aT_0 yT_0 gT_0 ++ (wX7 (aT 1) (va_up aT_1 0 (aT 0)) yT_1 gT_1 ++ (wX6 ((va_up aT_1 0 (aT 0)) 1) aT_1_1 yT_1_1 gT_1_1 ++ (wX4 hT_14 aT_14 yT_14 gT_14 ++ (wX0 hT_15 aT_15 yT_15 q_6.2)))))) := Hx_after (isC := [0, 1, 2, 3, 4, 20, 21, 22, 23, 24, 25, 26, 27, 28, 29, 30, 31, 32, 33, 34, 35]) (isR := [5, 6, 7, 8, 9, 10, 11, 12, 13, 14, 15, 16, 17, 18, 19]) (pm := [15, 16, 17, 18, 19, 0, 1, 2, 3, 4, 5, 6, 7, 8, 9, 10, 11, 12, 13, 14, 20, 21, 22, 23, 24, 25, 26, 27, 28, 29, 30, 31, 32, 33, 34, 35]) (wr := wTP (aT 0) aT_0 yT_0 gT_0 ++ (wX7 (aT 1) (va_up aT_1 0 (aT 0)) yT_1 gT_1 ++ (wX6 ((va_up aT_1 0 (aT 0)) 1) aT_1_1 yT_1_1 gT_1_1 ++ (wX4 hT_14 aT_14 yT_14 gT_14)))) X ⟨rfl, rfl, by decide, by decide, rfl, by decide⟩ ht hB hk hS
    clear hk hS ht hB
    generalize H1 = H at X ⊢
    generalize locs1 = locs at X ⊢
    refine lv_goto (tgt := 61) hx hb dX5_tell_29 (by decide) ?_
    exact (k_X5_tell_61 l D hT aT yT aT_0 yT_0 aT_1 yT_1 aT_1_1 yT_1_1 hT_14 aT_14 yT_14 hT_15 aT_15 yT_15 n) C X (lv_sub hl [1, 0] rfl) hF
set_option maxHeartbeats 4000000 in
set_option maxRecDepth 100000 in
theorem c_X5_tell (l : Launch) (D : Dx) (hT : Nat) (aT : Nat → Nat) (yT : Nat → ClassId) (aT_0 : Nat → Nat) (yT_0 : Nat → ClassId) (aT_1 : Nat → Nat) (yT_1 : Nat → ClassId) (aT_1_1 : Nat → Nat) (yT_1_1 : Nat → ClassId) (hT_14 : Nat) (aT_14 : Nat → Nat) (yT_14 : Nat → ClassId) (hT_15 : Nat) (aT_15 : Nat → Nat) (yT_15 : Nat → ClassId) (n : Nat) (gT : Gs) (gT_0 : Gs) (gT_1 : Gs) (gT_1_1 : Gs) (gT_14 : Gs) (gT_15 : Gs) (x0 : Int32) (x1 : Int32) (x2 : Int32) (q : Int32 × Gs × Gs × Gs × Gs) (hF : f_X5_tell n hT_14 hT_15 gT gT_0 gT_1 gT_1_1 gT_14 gT_15 x0 x1 x2 = some q) (sz : Nat) : Met l yX5_tell (ws_ yX5_tell cX5_tell 5 (some .int)) R_X5_tell (PC D (tX5 yT ++ (tTP yT_0 ++ (tX7 yT_1 ++ (tX6 yT_1_1 ++ (tX4 yT_14 ++ (tX0 yT_15)))))) [.ref hT, .int x0, .int x1, .int x2] (wX5 hT aT yT gT ++ (wTP (aT 0) aT_0 yT_0 gT_0 ++ (wX7 (aT 1) (va_up aT_1 0 (aT 0)) yT_1 gT_1 ++ (wX6 ((va_up aT_1 0 (aT 0)) 1) aT_1_1 yT_1_1 gT_1_1 ++ (wX4 hT_14 aT_14 yT_14 gT_14 ++ (wX0 hT_15 aT_15 yT_15 gT_15)))))) sz) (QI D (va_A (wX5 hT aT yT gT ++ (wTP (aT 0) aT_0 yT_0 gT_0 ++ (wX7 (aT 1) (va_up aT_1 0 (aT 0)) yT_1 gT_1 ++ (wX6 ((va_up aT_1 0 (aT 0)) 1) aT_1_1 yT_1_1 gT_1_1 ++ (wX4 hT_14 aT_14 yT_14 gT_14 ++ (wX0 hT_15 aT_15 yT_15 gT_15)))))) sz) (wX5 hT aT yT q.2.1 ++ (wTP (aT 0) aT_0 yT_0 gT_0 ++ (wX7 (aT 1) (va_up aT_1 0 (aT 0)) yT_1 q.2.2.1 ++ (wX6 ((va_up aT_1 0 (aT 0)) 1) aT_1_1 yT_1_1 gT_1_1 ++ (wX4 hT_14 aT_14 yT_14 q.2.2.2.1 ++ (wX0 hT_15 aT_15 yT_15 q.2.2.2.2)))))) q.1) 0 0 (va_A (wX5 hT aT yT gT ++ (wTP (aT 0) aT_0 yT_0 gT_0 ++ (wX7 (aT 1) (va_up aT_1 0 (aT 0)) yT_1 gT_1 ++ (wX6 ((va_up aT_1 0 (aT 0)) 1) aT_1_1 yT_1_1 gT_1_1 ++ (wX4 hT_14 aT_14 yT_14 gT_14 ++ (wX0 hT_15 aT_15 yT_15 gT_15)))))) sz) := by
  refine Met.ofW (cc := cX5_tell) (maxL := 5) (ret := (some .int)) (by decide) rfl ?_
  intro p e s m args below meth c s₁ B hml hv
  obtain ⟨rfl, hsz, hP, hK, hD, hN⟩ := hv
  subst hsz
  have C : Cx p s m _ meth c cX5_tell (some .int) 5 RX5 lw_all := Cx_of B hml
  have X := Hx_start hP hK hD hN
  obtain ⟨hx, hb, hr, -, hown, hts, hlk⟩ := id C
  generalize va_A (wX5 hT aT yT gT ++ (wTP (aT 0) aT_0 yT_0 gT_0 ++ (wX7 (aT 1) (va_up aT_1 0 (aT 0)) yT_1 gT_1 ++ (wX6 ((va_up aT_1 0 (aT 0)) 1) aT_1_1 yT_1_1 gT_1_1 ++ (wX4 hT_14 aT_14 yT_14 gT_14 ++ (wX0 hT_15 aT_15 yT_15 gT_15)))))) s.heap.size = A at X ⊢
  have hl := lv_entry ([.ref hT, .int x0, .int x1, .int x2]) (n := 5) (Nat.le_of_ble_eq_true rfl)
  rw [lg_entry_eq]
  generalize (lg_sl ([.ref hT, .int x0, .int x1, .int x2]) ++ List.replicate (5 - (lg_sl ([.ref hT, .int x0, .int x1, .int x2])).length) Slot.unset).toArray = ls at hl ⊢
  have hl : lv_has ls 5 [(0, .ref hT), (1, .int x0), (2, .int x1), (3, .int x2)] := hl
  unfold f_X5_tell at hF
  refine lv_iload_n hx hb dX5_tell_0 rfl (lv_at hl 2 rfl) ?_
  refine lv_iload_n hx hb dX5_tell_1 rfl (lv_at hl 3 rfl) ?_
  refine lv_icmp_ge (tgt := 9) hx hb dX5_tell_2 (by decide) (fun c => ?_) (fun c => ?_)
  · replace hF := iT c hF
    refine lv_iconst (v := (-1 : Int32)) hx hb dX5_tell_9 (by decide) ?_
    exact (k_X5_tell_10 l D hT aT yT aT_0 yT_0 aT_1 yT_1 aT_1_1 yT_1_1 hT_14 aT_14 yT_14 hT_15 aT_15 yT_15 n) C X (lv_sub hl [0, 1] rfl) hF
  · replace hF := iF c hF
    refine lv_iload_n hx hb dX5_tell_5 rfl (lv_at hl 2 rfl) ?_
    refine lv_goto (tgt := 10) hx hb dX5_tell_6 (by decide) ?_
    exact (k_X5_tell_10 l D hT aT yT aT_0 yT_0 aT_1 yT_1 aT_1_1 yT_1_1 hT_14 aT_14 yT_14 hT_15 aT_15 yT_15 n) C X (lv_sub hl [0, 1] rfl) hF

/-! ### X5_countNode -/
theorem dX5_countNode_0 : decode cX5_countNode 0 = .ok (.aload_n 0, 1) := by decide +kernel
theorem dX5_countNode_1 : decode cX5_countNode 1 = .ok (.getfield 71, 3) := by decide +kernel
theorem dX5_countNode_4 : decode cX5_countNode 4 = .ok (.dup, 1) := by decide +kernel
theorem dX5_countNode_5 : decode cX5_countNode 5 = .ok (.getfield 241, 3) := by decide +kernel
theorem dX5_countNode_8 : decode cX5_countNode 8 = .ok (.iconst 1, 1) := by decide +kernel
theorem dX5_countNode_9 : decode cX5_countNode 9 = .ok (.iadd, 1) := by decide +kernel
theorem dX5_countNode_10 : decode cX5_countNode 10 = .ok (.putfield 241, 3) := by decide +kernel
theorem dX5_countNode_13 : decode cX5_countNode 13 = .ok (.aload_n 0, 1) := by decide +kernel
theorem dX5_countNode_14 : decode cX5_countNode 14 = .ok (.getfield 71, 3) := by decide +kernel
theorem dX5_countNode_17 : decode cX5_countNode 17 = .ok (.getfield 241, 3) := by decide +kernel
theorem dX5_countNode_20 : decode cX5_countNode 20 = .ok (.sipush 500, 3) := by decide +kernel
theorem dX5_countNode_23 : decode cX5_countNode 23 = .ok (.if_icmp .le 8, 3) := by decide +kernel
theorem dX5_countNode_26 : decode cX5_countNode 26 = .ok (.aload_n 0, 1) := by decide +kernel
theorem dX5_countNode_27 : decode cX5_countNode 27 = .ok (.iload_n 1, 1) := by decide +kernel
theorem dX5_countNode_28 : decode cX5_countNode 28 = .ok (.invokevirtual 148, 3) := by decide +kernel
theorem dX5_countNode_31 : decode cX5_countNode 31 = .ok (.return_, 1) := by decide +kernel
abbrev R_X5_countNode : Room := ({ frames := 1, cells := 0, slots := 0, locals := 21 } : Room)
def f_X5_countNode (hT_15 : Nat) (gT : Gs) (gT_15 : Gs) (x0 : Int32) : Option (Gs × Gs) :=
  grd (rEq (gR gT 15) hT_15) (grd (rEq (gR gT 15) hT_15) (if ((gI gT_15 9) + (1 : Int32)) ≤ (500 : Int32) then (some (gT, (sI gT_15 9 ((gI gT_15 9) + (1 : Int32))))) else (bnd (f_X5_noteTooMuch hT_15 gT (sI gT_15 9 ((gI gT_15 9) + (1 : Int32))) x0) (fun q_3 => some (q_3.1, q_3.2)))))
set_option maxHeartbeats 4000000 in
set_option maxRecDepth 100000 in
theorem c_X5_countNode (l : Launch) (D : Dx) (hT : Nat) (aT : Nat → Nat) (yT : Nat → ClassId) (hT_15 : Nat) (aT_15 : Nat → Nat) (yT_15 : Nat → ClassId) (gT : Gs) (gT_15 : Gs) (x0 : Int32) (q : Gs × Gs) (hF : f_X5_countNode hT_15 gT gT_15 x0 = some q) (sz : Nat) : Met l yX5_countNode (ws_ yX5_countNode cX5_countNode 2 none) R_X5_countNode (PC D (tX5 yT ++ (tX0 yT_15)) [.ref hT, .int x0] (wX5 hT aT yT gT ++ (wX0 hT_15 aT_15 yT_15 gT_15)) sz) (QV D (va_A (wX5 hT aT yT gT ++ (wX0 hT_15 aT_15 yT_15 gT_15)) sz) (wX5 hT aT yT q.1 ++ (wX0 hT_15 aT_15 yT_15 q.2))) 0 0 (va_A (wX5 hT aT yT gT ++ (wX0 hT_15 aT_15 yT_15 gT_15)) sz) := by
  refine Met.ofW (cc := cX5_countNode) (maxL := 2) (ret := none) (by decide) rfl ?_
  intro p e s m args below meth c s₁ B hml hv
  obtain ⟨rfl, hsz, hP, hK, hD, hN⟩ := hv
  subst hsz
  have C : Cx p s m _ meth c cX5_countNode none 2 RX5 lw_all := Cx_of B hml
  have X := Hx_start hP hK hD hN
  obtain ⟨hx, hb, hr, -, hown, hts, hlk⟩ := id C
  generalize va_A (wX5 hT aT yT gT ++ (wX0 hT_15 aT_15 yT_15 gT_15)) s.heap.size = A at X ⊢
  have hl := lv_entry ([.ref hT, .int x0]) (n := 2) (Nat.le_of_ble_eq_true rfl)
  rw [lg_entry_eq]
  generalize (lg_sl ([.ref hT, .int x0]) ++ List.replicate (2 - (lg_sl ([.ref hT, .int x0])).length) Slot.unset).toArray = ls at hl ⊢
  have hl : lv_has ls 2 [(0, .ref hT), (1, .int x0)] := hl
  unfold f_X5_countNode at hF
  refine lv_aload_n hx hb dX5_countNode_0 rfl (lv_at hl 0 rfl) ?_
  obtain ⟨h_1, hF⟩ := grd_some hF
  refine va_get (D := D.1) (ci := 5) (v := .ref hT_15) (C := RX5) (T := TX5) (N := 18) hx hb hts wi_X5 hown X.1 X.2.1 0 rfl rfl 15 (by decide) (hts _ q3_66) (fun _ h9 => h9) ((fl_get (by decide)).trans (rf_eq h_1)) dX5_countNode_1 ?_
  refine lv_dup hx hb dX5_countNode_4 rfl ?_
  refine va_getN (D := D.1) (ci := 0) (v := .int (gI gT_15 9)) (C := RX0) (T := TX0) (N := 19) hx hb hts wi_X0 hown X.1 X.2.1 5 rfl rfl 9 (by decide) (X.2.2.2.2.2.1.use q2_1 rfl) (fun _ h9 => h9) (fl_get (by decide)) dX5_countNode_5 ?_
  refine lv_iconst (v := (1 : Int32)) hx hb dX5_countNode_8 (by decide) ?_
  refine lv_iadd hx hb dX5_countNode_9 ?_
  refine va_putN (D := D.1) (ci := 0) (v := .int ((gI gT_15 9) + (1 : Int32))) (ty := .int) (C := RX0) (T := TX0) (N := 19) hx hb hts wi_X0 tyX0 tyX0_ok nmX0 hown X.1 X.2.1 X.2.2.1 X.2.2.2.1 5 rfl rfl 9 (by decide) (X.2.2.2.2.2.1.use q2_1 rfl) (fun _ h9 => h9) rfl (by decide +kernel) rfl rfl (by rw [List.length_map, List.length_range]; decide) dX5_countNode_10 (fun H locs hP hD hS => ?_)
  have X : Hx D (tX5 yT ++ (tX0 yT_15)) A s H locs (wX5 hT aT yT gT ++ (wX0 hT_15 aT_15 yT_15 (sI gT_15 9 ((gI gT_15 9) + (1 : Int32))))) := Hx_set X (set_r (n := 5) (i := 0) (j := 5) (wG_len rfl) rfl (wG_sI (k := 9) rfl)) hP hD hS
  refine lv_aload_n hx hb dX5_countNode_13 rfl (lv_at hl 0 rfl) ?_
  obtain ⟨h_2, hF⟩ := grd_some hF
  refine va_get (D := D.1) (ci := 5) (v := .ref hT_15) (C := RX5) (T := TX5) (N := 18) hx hb hts wi_X5 hown X.1 X.2.1 0 rfl rfl 15 (by decide) (hts _ q3_66) (fun _ h9 => h9) ((fl_get (by decide)).trans (rf_eq h_2)) dX5_countNode_14 ?_
  refine va_getN (D := D.1) (ci := 0) (v := .int ((gI gT_15 9) + (1 : Int32))) (C := RX0) (T := TX0) (N := 19) hx hb hts wi_X0 hown X.1 X.2.1 5 rfl rfl 9 (by decide) (X.2.2.2.2.2.1.use q2_1 rfl) (fun _ h9 => h9) (fl_get (by decide)) dX5_countNode_17 ?_
  refine lv_sipush (v := (500 : Int32)) hx hb dX5_countNode_20 (by decide) ?_
  refine lv_icmp_le (tgt := 31) hx hb dX5_countNode_23 (by decide) (fun c => ?_) (fun c => ?_)
  · replace hF := iT c hF
    have hq := Option.some.inj hF
    subst hq
    exact rt_v C X dX5_countNode_31
  · replace hF := iF c hF
    refine lv_aload_n hx hb dX5_countNode_26 rfl (lv_at hl 0 rfl) ?_
    refine lv_iload_n hx hb dX5_countNode_27 rfl (lv_at hl 1 rfl) ?_
    obtain ⟨q_3, hc_4, hF⟩ := bnd_some hF
    refine cV_v (As := [.int x0]) (rest := []) C X (c_X5_noteTooMuch l D hT aT yT hT_15 aT_15 yT_15 gT (sI gT_15 9 ((gI gT_15 9) + (1 : Int32))) x0 q_3 hc_4 _) (cwV 1 hts (good_V q4_66 q4_68 q0_13 q1_10 q4_69) rfl rfl rfl (by decide +kernel) ⟨Nat.le_of_ble_eq_true rfl, Nat.le_of_ble_eq_true rfl⟩) (va_recv X.1 X.2.1 (ci := 5) (q0 := 0) rfl rfl) X.1 X.2.1 X.2.2.1 (free_all X) hl.1 rfl rfl (Nat.le_of_ble_eq_true rfl) dX5_countNode_28 ⟨Nat.le_of_ble_eq_true rfl, Nat.le_of_ble_eq_true rfl⟩ (fun t H1 locs1 ht hB hk hS => ?_)
    have X : Hx D (tX5 yT ++ (tX0 yT_15)) A s H1 locs1 (wX5 hT aT yT q_3.1 ++ (wX0 hT_15 aT_15 yT_15 q_3.2)) := Hx_after_all X ht hB hS
    clear hk hS ht hB
    generalize H1 = H at X ⊢
    generalize locs1 = locs at X ⊢
    have hq := Option.some.inj hF
    subst hq
    exact rt_v C X dX5_countNode_31

/-! ### X5_addNamed -/
theorem dX5_addNamed_0 : decode cX5_addNamed 0 = .ok (.aload_n 0, 1) := by decide +kernel
theorem dX5_addNamed_1 : decode cX5_addNamed 1 = .ok (.getfield 71, 3) := by decide +kernel
theorem dX5_addNamed_4 : decode cX5_addNamed 4 = .ok (.iload_n 1, 1) := by decide +kernel
theorem dX5_addNamed_5 : decode cX5_addNamed 5 = .ok (.iload_n 2, 1) := by decide +kernel
theorem dX5_addNamed_6 : decode cX5_addNamed 6 = .ok (.invokevirtual 244, 3) := by decide +kernel
theorem dX5_addNamed_9 : decode cX5_addNamed 9 = .ok (.istore 5, 2) := by decide +kernel
theorem dX5_addNamed_11 : decode cX5_addNamed 11 = .ok (.iload 5, 2) := by decide +kernel
theorem dX5_addNamed_13 : decode cX5_addNamed 13 = .ok (.iconst (-1), 1) := by decide +kernel
theorem dX5_addNamed_14 : decode cX5_addNamed 14 = .ok (.if_icmp .eq 26, 3) := by decide +kernel
theorem dX5_addNamed_17 : decode cX5_addNamed 17 = .ok (.aload_n 0, 1) := by decide +kernel
theorem dX5_addNamed_18 : decode cX5_addNamed 18 = .ok (.getfield 71, 3) := by decide +kernel
theorem dX5_addNamed_21 : decode cX5_addNamed 21 = .ok (.getfield 247, 3) := by decide +kernel
theorem dX5_addNamed_24 : decode cX5_addNamed 24 = .ok (.iload 5, 2) := by decide +kernel
theorem dX5_addNamed_26 : decode cX5_addNamed 26 = .ok (.iload_n 3, 1) := by decide +kernel
theorem dX5_addNamed_27 : decode cX5_addNamed 27 = .ok (.iastore, 1) := by decide +kernel
theorem dX5_addNamed_28 : decode cX5_addNamed 28 = .ok (.aload_n 0, 1) := by decide +kernel
theorem dX5_addNamed_29 : decode cX5_addNamed 29 = .ok (.getfield 71, 3) := by decide +kernel
theorem dX5_addNamed_32 : decode cX5_addNamed 32 = .ok (.getfield 250, 3) := by decide +kernel
theorem dX5_addNamed_35 : decode cX5_addNamed 35 = .ok (.iload 5, 2) := by decide +kernel
theorem dX5_addNamed_37 : decode cX5_addNamed 37 = .ok (.iload 4, 2) := by decide +kernel
theorem dX5_addNamed_39 : decode cX5_addNamed 39 = .ok (.iastore, 1) := by decide +kernel
theorem dX5_addNamed_40 : decode cX5_addNamed 40 = .ok (.return_, 1) := by decide +kernel
abbrev R_X5_addNamed : Room := ({ frames := 1, cells := 0, slots := 0, locals := 23 } : Room)
def f_X5_addNamed (hT_15 : Nat) (gT : Gs) (gT_15 : Gs) (x0 : Int32) (x1 : Int32) (x2 : Int32) (x3 : Int32) : Option (Gs) :=
  grd (rEq (gR gT 15) hT_15) (bnd (f_X0_add gT_15 x0 x1) (fun q_2 => if q_2.1 = (-1 : Int32) then (some q_2.2) else (grd (rEq (gR gT 15) hT_15) (grd (inB q_2.1 840) (grd (rEq (gR gT 15) hT_15) (grd (inB q_2.1 840) (some (sIA (sIA q_2.2 5 (upd (gIA q_2.2 5) q_2.1.toNatClampNeg x2)) 3 (upd (gIA q_2.2 3) q_2.1.toNatClampNeg x3)))))))))
set_option maxHeartbeats 4000000 in
set_option maxRecDepth 100000 in
theorem c_X5_addNamed (l : Launch) (D : Dx) (hT : Nat) (aT : Nat → Nat) (yT : Nat → ClassId) (hT_15 : Nat) (aT_15 : Nat → Nat) (yT_15 : Nat → ClassId) (gT : Gs) (gT_15 : Gs) (x0 : Int32) (x1 : Int32) (x2 : Int32) (x3 : Int32) (q : Gs) (hF : f_X5_addNamed hT_15 gT gT_15 x0 x1 x2 x3 = some q) (sz : Nat) : Met l yX5_addNamed (ws_ yX5_addNamed cX5_addNamed 6 none) R_X5_addNamed (PC D (tX5 yT ++ (tX0 yT_15)) [.ref hT, .int x0, .int x1, .int x2, .int x3] (wX5 hT aT yT gT ++ (wX0 hT_15 aT_15 yT_15 gT_15)) sz) (QV D (va_A (wX5 hT aT yT gT ++ (wX0 hT_15 aT_15 yT_15 gT_15)) sz) (wX5 hT aT yT gT ++ (wX0 hT_15 aT_15 yT_15 q))) 0 0 (va_A (wX5 hT aT yT gT ++ (wX0 hT_15 aT_15 yT_15 gT_15)) sz) := by
  refine Met.ofW (cc := cX5_addNamed) (maxL := 6) (ret := none) (by decide) rfl ?_
  intro p e s m args below meth c s₁ B hml hv
  obtain ⟨rfl, hsz, hP, hK, hD, hN⟩ := hv
  subst hsz
  have C : Cx p s m _ meth c cX5_addNamed none 6 RX5 lw_all := Cx_of B hml
  have X := Hx_start hP hK hD hN
  obtain ⟨hx, hb, hr, -, hown, hts, hlk⟩ := id C
  generalize va_A (wX5 hT aT yT gT ++ (wX0 hT_15 aT_15 yT_15 gT_15)) s.heap.size = A at X ⊢
  have hl := lv_entry ([.ref hT, .int x0, .int x1, .int x2, .int x3]) (n := 6) (Nat.le_of_ble_eq_true rfl)
  rw [lg_entry_eq]
  generalize (lg_sl ([.ref hT, .int x0, .int x1, .int x2, .int x3]) ++ List.replicate (6 - (lg_sl ([.ref hT, .int x0, .int x1, .int x2, .int x3])).length) Slot.unset).toArray = ls at hl ⊢
  have hl : lv_has ls 6 [(0, .ref hT), (1, .int x0), (2, .int x1), (3, .int x2), (4, .int x3)] := hl
  unfold f_X5_addNamed at hF
  refine lv_aload_n hx hb dX5_addNamed_0 rfl (lv_at hl 0 rfl) ?_
  obtain ⟨h_1, hF⟩ := grd_some hF
  refine va_get (D := D.1) (ci := 5) (v := .ref hT_15) (C := RX5) (T := TX5) (N := 18) hx hb hts wi_X5 hown X.1 X.2.1 0 rfl rfl 15 (by decide) (hts _ q3_66) (fun _ h9 => h9) ((fl_get (by decide)).trans (rf_eq h_1)) dX5_addNamed_1 ?_
  refine lv_iload_n hx hb dX5_addNamed_4 rfl (lv_at hl 1 rfl) ?_
  refine lv_iload_n hx hb dX5_addNamed_5 rfl (lv_at hl 2 rfl) ?_
  obtain ⟨q_2, hc_3, hF⟩ := bnd_some hF
  refine cV_i (As := [.int x0, .int x1]) (rest := []) C X (c_X0_add l D hT_15 aT_15 yT_15 gT_15 x0 x1 q_2 hc_3 _) (cwV 2 hts (good_V q4_101 q4_102 q4_103 q1_8 q4_104) rfl rfl rfl (by decide +kernel) ⟨Nat.le_of_ble_eq_true rfl, Nat.le_of_ble_eq_true rfl⟩) (va_recv X.1 X.2.1 (ci := 0) (q0 := 5) rfl rfl) (X.1.sub (tys' := tX0 yT_15) [4, 5, 6, 7, 8, 9, 10, 11, 12, 13, 14, 15, 16, 17, 18] rfl) (X.2.1.sub (ws' := wX0 hT_15 aT_15 yT_15 gT_15) [5, 6, 7, 8, 9, 10, 11, 12, 13, 14, 15, 16, 17, 18, 19, 20] rfl) (X.2.2.1.sub (ws' := wX0 hT_15 aT_15 yT_15 gT_15) [5, 6, 7, 8, 9, 10, 11, 12, 13, 14, 15, 16, 17, 18, 19, 20] (by decide) rfl) (free_of (wC := wX0 hT_15 aT_15 yT_15 gT_15) (isC := [5, 6, 7, 8, 9, 10, 11, 12, 13, 14, 15, 16, 17, 18, 19, 20]) X rfl) hl.1 rfl rfl (Nat.le_of_ble_eq_true rfl) dX5_addNamed_6 ⟨Nat.le_of_ble_eq_true rfl, Nat.le_of_ble_eq_true rfl⟩ (fun t H1 locs1 ht hB hk hS => ?_)
  have X : Hx D (tX5 yT ++ (tX0 yT_15)) A s H1 locs1 (wX5 hT aT yT gT ++ (wX0 hT_15 aT_15 yT_15 q_2.2)) := Hx_after (isC := [5, 6, 7, 8, 9, 10, 11, 12, 13, 14, 15, 16, 17, 18, 19, 20]) (isR := [0, 1, 2, 3, 4]) (pm := [0, 1, 2, 3, 4, 5, 6, 7, 8, 9, 10, 11, 12, 13, 14, 15, 16, 17, 18, 19, 20]) (wr := wX5 hT aT yT gT) X ⟨rfl, rfl, by decide, by decide, rfl, by decide⟩ ht hB hk hS
  clear hk hS ht hB
  generalize H1 = H at X ⊢
  generalize locs1 = locs at X ⊢
  refine lv_istore (lv' := [(5, .int q_2.1), (0, .ref hT), (1, .int x0), (2, .int x1), (3, .int x2), (4, .int x3)]) hx hb dX5_addNamed_9 hl (by decide) rfl (fun ls hl => ?_)
  refine lv_iload hx hb dX5_addNamed_11 (lv_at hl 0 rfl) ?_
  refine lv_iconst (v := (-1 : Int32)) hx hb dX5_addNamed_13 (by decide) ?_
  refine lv_icmp_eq (tgt := 40) hx hb dX5_addNamed_14 (by decide) (fun c => ?_) (fun c => ?_)
  · replace hF := iT c hF
    have hq := Option.some.inj hF
    subst hq
    exact rt_v C X dX5_addNamed_40
  · replace hF := iF c hF
    refine lv_aload_n hx hb dX5_addNamed_17 rfl (lv_at hl 1 rfl) ?_
    obtain ⟨h_4, hF⟩ := grd_some hF
    refine va_get (D := D.1) (ci := 5) (v := .ref hT_15) (C := RX5) (T := TX5) (N := 18) hx hb hts wi_X5 hown X.1 X.2.1 0 rfl rfl 15 (by decide) (hts _ q3_66) (fun _ h9 => h9) ((fl_get (by decide)).trans (rf_eq h_4)) dX5_addNamed_18 ?_
    refine va_getN (D := D.1) (ci := 0) (v := .ref (aT_15 5)) (C := RX0) (T := TX0) (N := 19) hx hb hts wi_X0 hown X.1 X.2.1 5 rfl rfl 5 (by decide) (X.2.2.2.2.2.1.use q1_230 rfl) (fun _ h9 => h9) (fl_get (by decide)) dX5_addNamed_21 ?_
    refine lv_iload hx hb dX5_addNamed_24 (lv_at hl 0 rfl) ?_
    refine lv_iload_n hx hb dX5_addNamed_26 rfl (lv_at hl 4 rfl) ?_
    obtain ⟨h_5, hF⟩ := grd_some hF
    refine va_iast (D := D.1) (f := gIA q_2.2 5) hx hb X.1 X.2.1 X.2.2.1 X.2.2.2.1 11 9 rfl rfl (inB_ok h_5) dX5_addNamed_27 (fun H locs hP hD hS => ?_)
    have X : Hx D (tX5 yT ++ (tX0 yT_15)) A s H locs (wX5 hT aT yT gT ++ (wX0 hT_15 aT_15 yT_15 (sIA q_2.2 5 (upd (gIA q_2.2 5) q_2.1.toNatClampNeg x2)))) := Hx_set X (set_r (n := 5) (i := 6) (j := 11) (wG_len rfl) rfl (wG_sIA (i := 5) (k := 5) ndX0 rfl rfl)) hP hD hS
    refine lv_aload_n hx hb dX5_addNamed_28 rfl (lv_at hl 1 rfl) ?_
    obtain ⟨h_6, hF⟩ := grd_some hF
    refine va_get (D := D.1) (ci := 5) (v := .ref hT_15) (C := RX5) (T := TX5) (N := 18) hx hb hts wi_X5 hown X.1 X.2.1 0 rfl rfl 15 (by decide) (hts _ q3_66) (fun _ h9 => h9) ((fl_get (by decide)).trans (rf_eq h_6)) dX5_addNamed_29 ?_
    refine va_getN (D := D.1) (ci := 0) (v := .ref (aT_15 3)) (C := RX0) (T := TX0) (N := 19) hx hb hts wi_X0 hown X.1 X.2.1 5 rfl rfl 3 (by decide) (X.2.2.2.2.2.1.use q1_222 rfl) (fun _ h9 => h9) (fl_get (by decide)) dX5_addNamed_32 ?_
    refine lv_iload hx hb dX5_addNamed_35 (lv_at hl 0 rfl) ?_
    refine lv_iload hx hb dX5_addNamed_37 (lv_at hl 5 rfl) ?_
    obtain ⟨h_7, hF⟩ := grd_some hF
    refine va_iast (D := D.1) (f := gIA q_2.2 3) hx hb X.1 X.2.1 X.2.2.1 X.2.2.2.1 9 7 rfl rfl (inB_ok h_7) dX5_addNamed_39 (fun H locs hP hD hS => ?_)
    have X : Hx D (tX5 yT ++ (tX0 yT_15)) A s H locs (wX5 hT aT yT gT ++ (wX0 hT_15 aT_15 yT_15 (sIA (sIA q_2.2 5 (upd (gIA q_2.2 5) q_2.1.toNatClampNeg x2)) 3 (upd (gIA q_2.2 3) q_2.1.toNatClampNeg x3)))) := Hx_set X (set_r (n := 5) (i := 4) (j := 9) (wG_len rfl) rfl (wG_sIA (i := 3) (k := 3) ndX0 rfl rfl)) hP hD hS
    have hq := Option.some.inj hF
    subst hq
    exact rt_v C X dX5_addNamed_40

/-! ### X5_skipTo -/
theorem dX5_skipTo_0 : decode cX5_skipTo 0 = .ok (.iload_n 1, 1) := by decide +kernel
theorem dX5_skipTo_1 : decode cX5_skipTo 1 = .ok (.iconst (-1), 1) := by decide +kernel
theorem dX5_skipTo_2 : decode cX5_skipTo 2 = .ok (.if_icmp .eq 18, 3) := by decide +kernel
theorem dX5_skipTo_5 : decode cX5_skipTo 5 = .ok (.iload_n 2, 1) := by decide +kernel
theorem dX5_skipTo_6 : decode cX5_skipTo 6 = .ok (.iconst (-1), 1) := by decide +kernel
theorem dX5_skipTo_7 : decode cX5_skipTo 7 = .ok (.if_icmp .eq 13, 3) := by decide +kernel
theorem dX5_skipTo_10 : decode cX5_skipTo 10 = .ok (.aload_n 0, 1) := by decide +kernel
theorem dX5_skipTo_11 : decode cX5_skipTo 11 = .ok (.getfield 71, 3) := by decide +kernel
theorem dX5_skipTo_14 : decode cX5_skipTo 14 = .ok (.getfield 247, 3) := by decide +kernel
theorem dX5_skipTo_17 : decode cX5_skipTo 17 = .ok (.iload_n 1, 1) := by decide +kernel
theorem dX5_skipTo_18 : decode cX5_skipTo 18 = .ok (.iload_n 2, 1) := by decide +kernel
theorem dX5_skipTo_19 : decode cX5_skipTo 19 = .ok (.iastore, 1) := by decide +kernel
theorem dX5_skipTo_20 : decode cX5_skipTo 20 = .ok (.return_, 1) := by decide +kernel
abbrev R_X5_skipTo : Room := ({ frames := 0, cells := 0, slots := 0, locals := 0 } : Room)
def f_X5_skipTo (hT_15 : Nat) (gT : Gs) (gT_15 : Gs) (x0 : Int32) (x1 : Int32) : Option (Gs) :=
  if x0 = (-1 : Int32) then (some gT_15) else (if x1 = (-1 : Int32) then (some gT_15) else (grd (rEq (gR gT 15) hT_15) (grd (inB x0 840) (some (sIA gT_15 5 (upd (gIA gT_15 5) x0.toNatClampNeg x1))))))
set_option maxHeartbeats 4000000 in
set_option maxRecDepth 100000 in
theorem c_X5_skipTo (l : Launch) (D : Dx) (hT : Nat) (aT : Nat → Nat) (yT : Nat → ClassId) (hT_15 : Nat) (aT_15 : Nat → Nat) (yT_15 : Nat → ClassId) (gT : Gs) (gT_15 : Gs) (x0 : Int32) (x1 : Int32) (q : Gs) (hF : f_X5_skipTo hT_15 gT gT_15 x0 x1 = some q) (sz : Nat) : Met l yX5_skipTo (ws_ yX5_skipTo cX5_skipTo 3 none) R_X5_skipTo (PC D (tX5 yT ++ (tX0 yT_15)) [.ref hT, .int x0, .int x1] (wX5 hT aT yT gT ++ (wX0 hT_15 aT_15 yT_15 gT_15)) sz) (QV D (va_A (wX5 hT aT yT gT ++ (wX0 hT_15 aT_15 yT_15 gT_15)) sz) (wX5 hT aT yT gT ++ (wX0 hT_15 aT_15 yT_15 q))) 0 0 (va_A (wX5 hT aT yT gT ++ (wX0 hT_15 aT_15 yT_15 gT_15)) sz) := by
  refine Met.ofW (cc := cX5_skipTo) (maxL := 3) (ret := none) (by decide) rfl ?_
  intro p e s m args below meth c s₁ B hml hv
  obtain ⟨rfl, hsz, hP, hK, hD, hN⟩ := hv
  subst hsz
  have C : Cx p s m _ meth c cX5_skipTo none 3 RX5 lw_all := Cx_of B hml
  have X := Hx_start hP hK hD hN
  obtain ⟨hx, hb, hr, -, hown, hts, hlk⟩ := id C
  generalize va_A (wX5 hT aT yT gT ++ (wX0 hT_15 aT_15 yT_15 gT_15)) s.heap.size = A at X ⊢
  have hl := lv_entry ([.ref hT, .int x0, .int x1]) (n := 3) (Nat.le_of_ble_eq_true rfl)
  rw [lg_entry_eq]
  generalize (lg_sl ([.ref hT, .int x0, .int x1]) ++ List.replicate (3 - (lg_sl ([.ref hT, .int x0, .int x1])).length) Slot.unset).toArray = ls at hl ⊢
  have hl : lv_has ls 3 [(0, .ref hT), (1, .int x0), (2, .int x1)] := hl
  unfold f_X5_skipTo at hF
  refine lv_iload_n hx hb dX5_skipTo_0 rfl (lv_at hl 1 rfl) ?_
  refine lv_iconst (v := (-1 : Int32)) hx hb dX5_skipTo_1 (by decide) ?_
  refine lv_icmp_eq (tgt := 20) hx hb dX5_skipTo_2 (by decide) (fun c => ?_) (fun c => ?_)
  · replace hF := iT c hF
    have hq := Option.some.inj hF
    subst hq
    exact rt_v C X dX5_skipTo_20
  · replace hF := iF c hF
    refine lv_iload_n hx hb dX5_skipTo_5 rfl (lv_at hl 2 rfl) ?_
    refine lv_iconst (v := (-1 : Int32)) hx hb dX5_skipTo_6 (by decide) ?_
    refine lv_icmp_eq (tgt := 20) hx hb dX5_skipTo_7 (by decide) (fun c => ?_) (fun c => ?_)
    · replace hF := iT c hF
      have hq := Option.some.inj hF
      subst hq
      exact rt_v C X dX5_skipTo_20
    · replace hF := iF c hF
      refine lv_aload_n hx hb dX5_skipTo_10 rfl (lv_at hl 0 rfl) ?_
      obtain ⟨h_1, hF⟩ := grd_some hF
      refine va_get (D := D.1) (ci := 5) (v := .ref hT_15) (C := RX5) (T := TX5) (N := 18) hx hb hts wi_X5 hown X.1 X.2.1 0 rfl rfl 15 (by decide) (hts _ q3_66) (fun _ h9 => h9) ((fl_get (by decide)).trans (rf_eq h_1)) dX5_skipTo_11 ?_
      refine va_getN (D := D.1) (ci := 0) (v := .ref (aT_15 5)) (C := RX0) (T := TX0) (N := 19) hx hb hts wi_X0 hown X.1 X.2.1 5 rfl rfl 5 (by decide) (X.2.2.2.2.2.1.use q1_230 rfl) (fun _ h9 => h9) (fl_get (by decide)) dX5_skipTo_14 ?_
      refine lv_iload_n hx hb dX5_skipTo_17 rfl (lv_at hl 1 rfl) ?_
      refine lv_iload_n hx hb dX5_skipTo_18 rfl (lv_at hl 2 rfl) ?_
      obtain ⟨h_2, hF⟩ := grd_some hF
      refine va_iast (D := D.1) (f := gIA gT_15 5) hx hb X.1 X.2.1 X.2.2.1 X.2.2.2.1 11 9 rfl rfl (inB_ok h_2) dX5_skipTo_19 (fun H locs hP hD hS => ?_)
      have X : Hx D (tX5 yT ++ (tX0 yT_15)) A s H locs (wX5 hT aT yT gT ++ (wX0 hT_15 aT_15 yT_15 (sIA gT_15 5 (upd (gIA gT_15 5) x0.toNatClampNeg x1)))) := Hx_set X (set_r (n := 5) (i := 6) (j := 11) (wG_len rfl) rfl (wG_sIA (i := 5) (k := 5) ndX0 rfl rfl)) hP hD hS
      have hq := Option.some.inj hF
      subst hq
      exact rt_v C X dX5_skipTo_20

/-! ### X5_push -/
theorem dX5_push_0 : decode cX5_push 0 = .ok (.aload_n 0, 1) := by decide +kernel
theorem dX5_push_1 : decode cX5_push 1 = .ok (.getfield 31, 3) := by decide +kernel
theorem dX5_push_4 : decode cX5_push 4 = .ok (.sipush 320, 3) := by decide +kernel
theorem dX5_push_7 : decode cX5_push 7 = .ok (.if_icmp .lt 5, 3) := by decide +kernel
theorem dX5_push_10 : decode cX5_push 10 = .ok (.iconst 0, 1) := by decide +kernel
theorem dX5_push_11 : decode cX5_push 11 = .ok (.ireturn, 1) := by decide +kernel
theorem dX5_push_12 : decode cX5_push 12 = .ok (.aload_n 0, 1) := by decide +kernel
theorem dX5_push_13 : decode cX5_push 13 = .ok (.getfield 18, 3) := by decide +kernel
theorem dX5_push_16 : decode cX5_push 16 = .ok (.aload_n 0, 1) := by decide +kernel
theorem dX5_push_17 : decode cX5_push 17 = .ok (.getfield 31, 3) := by decide +kernel
theorem dX5_push_20 : decode cX5_push 20 = .ok (.iload_n 1, 1) := by decide +kernel
theorem dX5_push_21 : decode cX5_push 21 = .ok (.iastore, 1) := by decide +kernel
theorem dX5_push_22 : decode cX5_push 22 = .ok (.aload_n 0, 1) := by decide +kernel
theorem dX5_push_23 : decode cX5_push 23 = .ok (.getfield 22, 3) := by decide +kernel
theorem dX5_push_26 : decode cX5_push 26 = .ok (.aload_n 0, 1) := by decide +kernel
theorem dX5_push_27 : decode cX5_push 27 = .ok (.getfield 31, 3) := by decide +kernel
theorem dX5_push_30 : decode cX5_push 30 = .ok (.iload_n 2, 1) := by decide +kernel
theorem dX5_push_31 : decode cX5_push 31 = .ok (.iastore, 1) := by decide +kernel
theorem dX5_push_32 : decode cX5_push 32 = .ok (.aload_n 0, 1) := by decide +kernel
theorem dX5_push_33 : decode cX5_push 33 = .ok (.getfield 25, 3) := by decide +kernel
theorem dX5_push_36 : decode cX5_push 36 = .ok (.aload_n 0, 1) := by decide +kernel
theorem dX5_push_37 : decode cX5_push 37 = .ok (.getfield 31, 3) := by decide +kernel
theorem dX5_push_40 : decode cX5_push 40 = .ok (.iload_n 3, 1) := by decide +kernel
theorem dX5_push_41 : decode cX5_push 41 = .ok (.iastore, 1) := by decide +kernel
theorem dX5_push_42 : decode cX5_push 42 = .ok (.aload_n 0, 1) := by decide +kernel
theorem dX5_push_43 : decode cX5_push 43 = .ok (.getfield 28, 3) := by decide +kernel
theorem dX5_push_46 : decode cX5_push 46 = .ok (.aload_n 0, 1) := by decide +kernel
theorem dX5_push_47 : decode cX5_push 47 = .ok (.getfield 31, 3) := by decide +kernel
theorem dX5_push_50 : decode cX5_push 50 = .ok (.iload 4, 2) := by decide +kernel
theorem dX5_push_52 : decode cX5_push 52 = .ok (.iastore, 1) := by decide +kernel
theorem dX5_push_53 : decode cX5_push 53 = .ok (.aload_n 0, 1) := by decide +kernel
theorem dX5_push_54 : decode cX5_push 54 = .ok (.dup, 1) := by decide +kernel
theorem dX5_push_55 : decode cX5_push 55 = .ok (.getfield 31, 3) := by decide +kernel
theorem dX5_push_58 : decode cX5_push 58 = .ok (.iconst 1, 1) := by decide +kernel
theorem dX5_push_59 : decode cX5_push 59 = .ok (.iadd, 1) := by decide +kernel
theorem dX5_push_60 : decode cX5_push 60 = .ok (.putfield 31, 3) := by decide +kernel
theorem dX5_push_63 : decode cX5_push 63 = .ok (.iconst 2, 1) := by decide +kernel
theorem dX5_push_64 : decode cX5_push 64 = .ok (.ireturn, 1) := by decide +kernel
abbrev R_X5_push : Room := ({ frames := 0, cells := 0, slots := 0, locals := 0 } : Room)
def f_X5_push (gT : Gs) (x0 : Int32) (x1 : Int32) (x2 : Int32) (x3 : Int32) : Option (Int32 × Gs) :=
  if (gI gT 8) < (320 : Int32) then (grd (inB (gI gT 8) 320) (grd (inB (gI gT 8) 320) (grd (inB (gI gT 8) 320) (grd (inB (gI gT 8) 320) (some ((2 : Int32), (sI (sIA (sIA (sIA (sIA gT 4 (upd (gIA gT 4) (gI gT 8).toNatClampNeg x0)) 5 (upd (gIA gT 5) (gI gT 8).toNatClampNeg x1)) 6 (upd (gIA gT 6) (gI gT 8).toNatClampNeg x2)) 7 (upd (gIA gT 7) (gI gT 8).toNatClampNeg x3)) 8 ((gI gT 8) + (1 : Int32))))))))) else (some ((0 : Int32), gT))
set_option maxHeartbeats 4000000 in
set_option maxRecDepth 100000 in
theorem c_X5_push (l : Launch) (D : Dx) (hT : Nat) (aT : Nat → Nat) (yT : Nat → ClassId) (gT : Gs) (x0 : Int32) (x1 : Int32) (x2 : Int32) (x3 : Int32) (q : Int32 × Gs) (hF : f_X5_push gT x0 x1 x2 x3 = some q) (sz : Nat) : Met l yX5_push (ws_ yX5_push cX5_push 5 (some .int)) R_X5_push (PC D (tX5 yT) [.ref hT, .int x0, .int x1, .int x2, .int x3] (wX5 hT aT yT gT) sz) (QI D (va_A (wX5 hT aT yT gT) sz) (wX5 hT aT yT q.2) q.1) 0 0 (va_A (wX5 hT aT yT gT) sz) := by
  refine Met.ofW (cc := cX5_push) (maxL := 5) (ret := (some .int)) (by decide) rfl ?_
  intro p e s m args below meth c s₁ B hml hv
  obtain ⟨rfl, hsz, hP, hK, hD, hN⟩ := hv
  subst hsz
  have C : Cx p s m _ meth c cX5_push (some .int) 5 RX5 lw_all := Cx_of B hml
  have X := Hx_start hP hK hD hN
  obtain ⟨hx, hb, hr, -, hown, hts, hlk⟩ := id C
  generalize va_A (wX5 hT aT yT gT) s.heap.size = A at X ⊢
  have hl := lv_entry ([.ref hT, .int x0, .int x1, .int x2, .int x3]) (n := 5) (Nat.le_of_ble_eq_true rfl)
  rw [lg_entry_eq]
  generalize (lg_sl ([.ref hT, .int x0, .int x1, .int x2, .int x3]) ++ List.replicate (5 - (lg_sl ([.ref hT, .int x0, .int x1, .int x2, .int x3])).length) Slot.unset).toArray = ls at hl ⊢
  have hl : lv_has ls 5 [(0, .ref hT), (1, .int x0), (2, .int x1), (3, .int x2), (4, .int x3)] := hl
  unfold f_X5_push at hF
  refine lv_aload_n hx hb dX5_push_0 rfl (lv_at hl 0 rfl) ?_
  refine va_get (D := D.1) (ci := 5) (v := .int (gI gT 8)) (C := RX5) (T := TX5) (N := 18) hx hb hts wi_X5 hown X.1 X.2.1 0 rfl rfl 8 (by decide) (hts _ q3_59) (fun _ h9 => h9) (fl_get (by decide)) dX5_push_1 ?_
  refine lv_sipush (v := (320 : Int32)) hx hb dX5_push_4 (by decide) ?_
  refine lv_icmp_lt (tgt := 12) hx hb dX5_push_7 (by decide) (fun c => ?_) (fun c => ?_)
  · replace hF := iT c hF
    refine lv_aload_n hx hb dX5_push_12 rfl (lv_at hl 0 rfl) ?_
    refine va_get (D := D.1) (ci := 5) (v := .ref (aT 4)) (C := RX5) (T := TX5) (N := 18) hx hb hts wi_X5 hown X.1 X.2.1 0 rfl rfl 4 (by decide) (hts _ q3_55) (fun _ h9 => h9) (fl_get (by decide)) dX5_push_13 ?_
    refine lv_aload_n hx hb dX5_push_16 rfl (lv_at hl 0 rfl) ?_
    refine va_get (D := D.1) (ci := 5) (v := .int (gI gT 8)) (C := RX5) (T := TX5) (N := 18) hx hb hts wi_X5 hown X.1 X.2.1 0 rfl rfl 8 (by decide) (hts _ q3_59) (fun _ h9 => h9) (fl_get (by decide)) dX5_push_17 ?_
    refine lv_iload_n hx hb dX5_push_20 rfl (lv_at hl 1 rfl) ?_
    obtain ⟨h_1, hF⟩ := grd_some hF
    refine va_iast (D := D.1) (f := gIA gT 4) hx hb X.1 X.2.1 X.2.2.1 X.2.2.2.1 1 0 rfl rfl (inB_ok h_1) dX5_push_21 (fun H locs hP hD hS => ?_)
    have X : Hx D (tX5 yT) A s H locs (wX5 hT aT yT (sIA gT 4 (upd (gIA gT 4) (gI gT 8).toNatClampNeg x0))) := Hx_set X (wG_sIA (i := 0) (k := 4) ndX5 rfl rfl) hP hD hS
    refine lv_aload_n hx hb dX5_push_22 rfl (lv_at hl 0 rfl) ?_
    refine va_get (D := D.1) (ci := 5) (v := .ref (aT 5)) (C := RX5) (T := TX5) (N := 18) hx hb hts wi_X5 hown X.1 X.2.1 0 rfl rfl 5 (by decide) (hts _ q3_56) (fun _ h9 => h9) (fl_get (by decide)) dX5_push_23 ?_
    refine lv_aload_n hx hb dX5_push_26 rfl (lv_at hl 0 rfl) ?_
    refine va_get (D := D.1) (ci := 5) (v := .int (gI gT 8)) (C := RX5) (T := TX5) (N := 18) hx hb hts wi_X5 hown X.1 X.2.1 0 rfl rfl 8 (by decide) (hts _ q3_59) (fun _ h9 => h9) (fl_get (by decide)) dX5_push_27 ?_
    refine lv_iload_n hx hb dX5_push_30 rfl (lv_at hl 2 rfl) ?_
    obtain ⟨h_2, hF⟩ := grd_some hF
    refine va_iast (D := D.1) (f := gIA gT 5) hx hb X.1 X.2.1 X.2.2.1 X.2.2.2.1 2 1 rfl rfl (inB_ok h_2) dX5_push_31 (fun H locs hP hD hS => ?_)
    have X : Hx D (tX5 yT) A s H locs (wX5 hT aT yT (sIA (sIA gT 4 (upd (gIA gT 4) (gI gT 8).toNatClampNeg x0)) 5 (upd (gIA gT 5) (gI gT 8).toNatClampNeg x1))) := Hx_set X (wG_sIA (i := 1) (k := 5) ndX5 rfl rfl) hP hD hS
    refine lv_aload_n hx hb dX5_push_32 rfl (lv_at hl 0 rfl) ?_
    refine va_get (D := D.1) (ci := 5) (v := .ref (aT 6)) (C := RX5) (T := TX5) (N := 18) hx hb hts wi_X5 hown X.1 X.2.1 0 rfl rfl 6 (by decide) (hts _ q3_57) (fun _ h9 => h9) (fl_get (by decide)) dX5_push_33 ?_
    refine lv_aload_n hx hb dX5_push_36 rfl (lv_at hl 0 rfl) ?_
    refine va_get (D := D.1) (ci := 5) (v := .int (gI gT 8)) (C := RX5) (T := TX5) (N := 18) hx hb hts wi_X5 hown X.1 X.2.1 0 rfl rfl 8 (by decide) (hts _ q3_59) (fun _ h9 => h9) (fl_get (by decide)) dX5_push_37 ?_
    refine lv_iload_n hx hb dX5_push_40 rfl (lv_at hl 3 rfl) ?_
    obtain ⟨h_3, hF⟩ := grd_some hF
    refine va_iast (D := D.1) (f := gIA gT 6) hx hb X.1 X.2.1 X.2.2.1 X.2.2.2.1 3 2 rfl rfl (inB_ok h_3) dX5_push_41 (fun H locs hP hD hS => ?_)
    have X : Hx D (tX5 yT) A s H locs (wX5 hT aT yT (sIA (sIA (sIA gT 4 (upd (gIA gT 4) (gI gT 8).toNatClampNeg x0)) 5 (upd (gIA gT 5) (gI gT 8).toNatClampNeg x1)) 6 (upd (gIA gT 6) (gI gT 8).toNatClampNeg x2))) := Hx_set X (wG_sIA (i := 2) (k := 6) ndX5 rfl rfl) hP hD hS
    refine lv_aload_n hx hb dX5_push_42 rfl (lv_at hl 0 rfl) ?_
    refine va_get (D := D.1) (ci := 5) (v := .ref (aT 7)) (C := RX5) (T := TX5) (N := 18) hx hb hts wi_X5 hown X.1 X.2.1 0 rfl rfl 7 (by decide) (hts _ q3_58) (fun _ h9 => h9) (fl_get (by decide)) dX5_push_43 ?_
    refine lv_aload_n hx hb dX5_push_46 rfl (lv_at hl 0 rfl) ?_
    refine va_get (D := D.1) (ci := 5) (v := .int (gI gT 8)) (C := RX5) (T := TX5) (N := 18) hx hb hts wi_X5 hown X.1 X.2.1 0 rfl rfl 8 (by decide) (hts _ q3_59) (fun _ h9 => h9) (fl_get (by decide)) dX5_push_47 ?_
    refine lv_iload hx hb dX5_push_50 (lv_at hl 4 rfl) ?_
    obtain ⟨h_4, hF⟩ := grd_some hF
    refine va_iast (D := D.1) (f := gIA gT 7) hx hb X.1 X.2.1 X.2.2.1 X.2.2.2.1 4 3 rfl rfl (inB_ok h_4) dX5_push_52 (fun H locs hP hD hS => ?_)
    have X : Hx D (tX5 yT) A s H locs (wX5 hT aT yT (sIA (sIA (sIA (sIA gT 4 (upd (gIA gT 4) (gI gT 8).toNatClampNeg x0)) 5 (upd (gIA gT 5) (gI gT 8).toNatClampNeg x1)) 6 (upd (gIA gT 6) (gI gT 8).toNatClampNeg x2)) 7 (upd (gIA gT 7) (gI gT 8).toNatClampNeg x3))) := Hx_set X (wG_sIA (i := 3) (k := 7) ndX5 rfl rfl) hP hD hS
    refine lv_aload_n hx hb dX5_push_53 rfl (lv_at hl 0 rfl) ?_
    refine lv_dup hx hb dX5_push_54 rfl ?_
    refine va_get (D := D.1) (ci := 5) (v := .int (gI gT 8)) (C := RX5) (T := TX5) (N := 18) hx hb hts wi_X5 hown X.1 X.2.1 0 rfl rfl 8 (by decide) (hts _ q3_59) (fun _ h9 => h9) (fl_get (by decide)) dX5_push_55 ?_
    refine lv_iconst (v := (1 : Int32)) hx hb dX5_push_58 (by decide) ?_
    refine lv_iadd hx hb dX5_push_59 ?_
    refine va_put (D := D.1) (ci := 5) (v := .int ((gI gT 8) + (1 : Int32))) (ty := .int) (C := RX5) (T := TX5) (N := 18) hx hb hts wi_X5 tyX5 tyX5_ok nmX5 hown X.1 X.2.1 X.2.2.1 X.2.2.2.1 0 rfl rfl 8 (by decide) (hts _ q3_59) (fun _ h9 => h9) rfl (by decide +kernel) rfl rfl (by rw [List.length_map, List.length_range]; decide) dX5_push_60 (fun H locs hP hD hS => ?_)
    have X : Hx D (tX5 yT) A s H locs (wX5 hT aT yT (sI (sIA (sIA (sIA (sIA gT 4 (upd (gIA gT 4) (gI gT 8).toNatClampNeg x0)) 5 (upd (gIA gT 5) (gI gT 8).toNatClampNeg x1)) 6 (upd (gIA gT 6) (gI gT 8).toNatClampNeg x2)) 7 (upd (gIA gT 7) (gI gT 8).toNatClampNeg x3)) 8 ((gI gT 8) + (1 : Int32)))) := Hx_set X (wG_sI (k := 8) rfl) hP hD hS
    refine lv_iconst (v := (2 : Int32)) hx hb dX5_push_63 (by decide) ?_
    have hq := Option.some.inj hF
    subst hq
    exact rt_i C X dX5_push_64
  · replace hF := iF c hF
    refine lv_iconst (v := (0 : Int32)) hx hb dX5_push_10 (by decide) ?_
    have hq := Option.some.inj hF
    subst hq
    exact rt_i C X dX5_push_11

/-! ### X5_enter -/
theorem dX5_enter_0 : decode cX5_enter 0 = .ok (.aload_n 0, 1) := by decide +kernel
theorem dX5_enter_1 : decode cX5_enter 1 = .ok (.getfield 35, 3) := by decide +kernel
theorem dX5_enter_4 : decode cX5_enter 4 = .ok (.bipush 40, 2) := by decide +kernel
theorem dX5_enter_6 : decode cX5_enter 6 = .ok (.if_icmp .lt 5, 3) := by decide +kernel
theorem dX5_enter_9 : decode cX5_enter 9 = .ok (.iconst 0, 1) := by decide +kernel
theorem dX5_enter_10 : decode cX5_enter 10 = .ok (.ireturn, 1) := by decide +kernel
theorem dX5_enter_11 : decode cX5_enter 11 = .ok (.aload_n 0, 1) := by decide +kernel
theorem dX5_enter_12 : decode cX5_enter 12 = .ok (.dup, 1) := by decide +kernel
theorem dX5_enter_13 : decode cX5_enter 13 = .ok (.getfield 35, 3) := by decide +kernel
theorem dX5_enter_16 : decode cX5_enter 16 = .ok (.iconst 1, 1) := by decide +kernel
theorem dX5_enter_17 : decode cX5_enter 17 = .ok (.iadd, 1) := by decide +kernel
theorem dX5_enter_18 : decode cX5_enter 18 = .ok (.putfield 35, 3) := by decide +kernel
theorem dX5_enter_21 : decode cX5_enter 21 = .ok (.aload_n 0, 1) := by decide +kernel
theorem dX5_enter_22 : decode cX5_enter 22 = .ok (.iload_n 1, 1) := by decide +kernel
theorem dX5_enter_23 : decode cX5_enter 23 = .ok (.iload_n 2, 1) := by decide +kernel
theorem dX5_enter_24 : decode cX5_enter 24 = .ok (.iload_n 3, 1) := by decide +kernel
theorem dX5_enter_25 : decode cX5_enter 25 = .ok (.iload 4, 2) := by decide +kernel
theorem dX5_enter_27 : decode cX5_enter 27 = .ok (.invokevirtual 253, 3) := by decide +kernel
theorem dX5_enter_30 : decode cX5_enter 30 = .ok (.ireturn, 1) := by decide +kernel
abbrev R_X5_enter : Room := ({ frames := 1, cells := 0, slots := 0, locals := 24 } : Room)
def f_X5_enter (gT : Gs) (x0 : Int32) (x1 : Int32) (x2 : Int32) (x3 : Int32) : Option (Int32 × Gs) :=
  if (gI gT 9) < (40 : Int32) then (bnd (f_X5_push (sI gT 9 ((gI gT 9) + (1 : Int32))) x0 x1 x2 x3) (fun q_1 => some (q_1.1, q_1.2))) else (some ((0 : Int32), gT))
set_option maxHeartbeats 4000000 in
set_option maxRecDepth 100000 in
theorem c_X5_enter (l : Launch) (D : Dx) (hT : Nat) (aT : Nat → Nat) (yT : Nat → ClassId) (gT : Gs) (x0 : Int32) (x1 : Int32) (x2 : Int32) (x3 : Int32) (q : Int32 × Gs) (hF : f_X5_enter gT x0 x1 x2 x3 = some q) (sz : Nat) : Met l yX5_enter (ws_ yX5_enter cX5_enter 5 (some .int)) R_X5_enter (PC D (tX5 yT) [.ref hT, .int x0, .int x1, .int x2, .int x3] (wX5 hT aT yT gT) sz) (QI D (va_A (wX5 hT aT yT gT) sz) (wX5 hT aT yT q.2) q.1) 0 0 (va_A (wX5 hT aT yT gT) sz) := by
  refine Met.ofW (cc := cX5_enter) (maxL := 5) (ret := (some .int)) (by decide) rfl ?_
  intro p e s m args below meth c s₁ B hml hv
  obtain ⟨rfl, hsz, hP, hK, hD, hN⟩ := hv
  subst hsz
  have C : Cx p s m _ meth c cX5_enter (some .int) 5 RX5 lw_all := Cx_of B hml
  have X := Hx_start hP hK hD hN
  obtain ⟨hx, hb, hr, -, hown, hts, hlk⟩ := id C
  generalize va_A (wX5 hT aT yT gT) s.heap.size = A at X ⊢
  have hl := lv_entry ([.ref hT, .int x0, .int x1, .int x2, .int x3]) (n := 5) (Nat.le_of_ble_eq_true rfl)
  rw [lg_entry_eq]
  generalize (lg_sl ([.ref hT, .int x0, .int x1, .int x2, .int x3]) ++ List.replicate (5 - (lg_sl ([.ref hT, .int x0, .int x1, .int x2, .int x3])).length) Slot.unset).toArray = ls at hl ⊢
  have hl : lv_has ls 5 [(0, .ref hT), (1, .int x0), (2, .int x1), (3, .int x2), (4, .int x3)] := hl
  unfold f_X5_enter at hF
  refine lv_aload_n hx hb dX5_enter_0 rfl (lv_at hl 0 rfl) ?_
  refine va_get (D := D.1) (ci := 5) (v := .int (gI gT 9)) (C := RX5) (T := TX5) (N := 18) hx hb hts wi_X5 hown X.1 X.2.1 0 rfl rfl 9 (by decide) (hts _ q3_60) (fun _ h9 => h9) (fl_get (by decide)) dX5_enter_1 ?_
  refine lv_bipush (v := (40 : Int32)) hx hb dX5_enter_4 (by decide) ?_
  refine lv_icmp_lt (tgt := 11) hx hb dX5_enter_6 (by decide) (fun c => ?_) (fun c => ?_)
  · replace hF := iT c hF
    refine lv_aload_n hx hb dX5_enter_11 rfl (lv_at hl 0 rfl) ?_
    refine lv_dup hx hb dX5_enter_12 rfl ?_
    refine va_get (D := D.1) (ci := 5) (v := .int (gI gT 9)) (C := RX5) (T := TX5) (N := 18) hx hb hts wi_X5 hown X.1 X.2.1 0 rfl rfl 9 (by decide) (hts _ q3_60) (fun _ h9 => h9) (fl_get (by decide)) dX5_enter_13 ?_
    refine lv_iconst (v := (1 : Int32)) hx hb dX5_enter_16 (by decide) ?_
    refine lv_iadd hx hb dX5_enter_17 ?_
    refine va_put (D := D.1) (ci := 5) (v := .int ((gI gT 9) + (1 : Int32))) (ty := .int) (C := RX5) (T := TX5) (N := 18) hx hb hts wi_X5 tyX5 tyX5_ok nmX5 hown X.1 X.2.1 X.2.2.1 X.2.2.2.1 0 rfl rfl 9 (by decide) (hts _ q3_60) (fun _ h9 => h9) rfl (by decide +kernel) rfl rfl (by rw [List.length_map, List.length_range]; decide) dX5_enter_18 (fun H locs hP hD hS => ?_)
    have X : Hx D (tX5 yT) A s H locs (wX5 hT aT yT (sI gT 9 ((gI gT 9) + (1 : Int32)))) := Hx_set X (wG_sI (k := 9) rfl) hP hD hS
    refine lv_aload_n hx hb dX5_enter_21 rfl (lv_at hl 0 rfl) ?_
    refine lv_iload_n hx hb dX5_enter_22 rfl (lv_at hl 1 rfl) ?_
    refine lv_iload_n hx hb dX5_enter_23 rfl (lv_at hl 2 rfl) ?_
    refine lv_iload_n hx hb dX5_enter_24 rfl (lv_at hl 3 rfl) ?_
    refine lv_iload hx hb dX5_enter_25 (lv_at hl 4 rfl) ?_
    obtain ⟨q_1, hc_2, hF⟩ := bnd_some hF
    refine cV_i (As := [.int x0, .int x1, .int x2, .int x3]) (rest := []) C X (c_X5_push l D hT aT yT (sI gT 9 ((gI gT 9) + (1 : Int32))) x0 x1 x2 x3 q_1 hc_2 _) (cwV 4 hts (good_V q4_117 q4_119 q0_22 q1_10 q4_120) rfl rfl rfl (by decide +kernel) ⟨Nat.le_of_ble_eq_true rfl, Nat.le_of_ble_eq_true rfl⟩) (va_recv X.1 X.2.1 (ci := 5) (q0 := 0) rfl rfl) X.1 X.2.1 X.2.2.1 (free_all X) hl.1 rfl rfl (Nat.le_of_ble_eq_true rfl) dX5_enter_27 ⟨Nat.le_of_ble_eq_true rfl, Nat.le_of_ble_eq_true rfl⟩ (fun t H1 locs1 ht hB hk hS => ?_)
    have X : Hx D (tX5 yT) A s H1 locs1 (wX5 hT aT yT q_1.2) := Hx_after_all X ht hB hS
    clear hk hS ht hB
    generalize H1 = H at X ⊢
    generalize locs1 = locs at X ⊢
    have hq := Option.some.inj hF
    subst hq
    exact rt_i C X dX5_enter_30
  · replace hF := iF c hF
    refine lv_iconst (v := (0 : Int32)) hx hb dX5_enter_9 (by decide) ?_
    have hq := Option.some.inj hF
    subst hq
    exact rt_i C X dX5_enter_10

/-! ### X5_readLeaf -/
theorem dX5_readLeaf_0 : decode cX5_readLeaf 0 = .ok (.aload_n 0, 1) := by decide +kernel
theorem dX5_readLeaf_1 : decode cX5_readLeaf 1 = .ok (.aload_n 0, 1) := by decide +kernel
theorem dX5_readLeaf_2 : decode cX5_readLeaf 2 = .ok (.getfield 77, 3) := by decide +kernel
theorem dX5_readLeaf_5 : decode cX5_readLeaf 5 = .ok (.getfield 114, 3) := by decide +kernel
theorem dX5_readLeaf_8 : decode cX5_readLeaf 8 = .ok (.invokevirtual 260, 3) := by decide +kernel
theorem dX5_readLeaf_11 : decode cX5_readLeaf 11 = .ok (.iload_n 1, 1) := by decide +kernel
theorem dX5_readLeaf_12 : decode cX5_readLeaf 12 = .ok (.bipush 26, 2) := by decide +kernel
theorem dX5_readLeaf_14 : decode cX5_readLeaf 14 = .ok (.if_icmp .eq 9, 3) := by decide +kernel
theorem dX5_readLeaf_17 : decode cX5_readLeaf 17 = .ok (.iload_n 1, 1) := by decide +kernel
theorem dX5_readLeaf_18 : decode cX5_readLeaf 18 = .ok (.bipush 27, 2) := by decide +kernel
theorem dX5_readLeaf_20 : decode cX5_readLeaf 20 = .ok (.if_icmp .ne 7, 3) := by decide +kernel
theorem dX5_readLeaf_23 : decode cX5_readLeaf 23 = .ok (.iconst 1, 1) := by decide +kernel
theorem dX5_readLeaf_24 : decode cX5_readLeaf 24 = .ok (.goto 4, 3) := by decide +kernel
theorem dX5_readLeaf_27 : decode cX5_readLeaf 27 = .ok (.iconst 0, 1) := by decide +kernel
theorem dX5_readLeaf_28 : decode cX5_readLeaf 28 = .ok (.istore_n 2, 1) := by decide +kernel
theorem dX5_readLeaf_29 : decode cX5_readLeaf 29 = .ok (.aload_n 0, 1) := by decide +kernel
theorem dX5_readLeaf_30 : decode cX5_readLeaf 30 = .ok (.getfield 71, 3) := by decide +kernel
theorem dX5_readLeaf_33 : decode cX5_readLeaf 33 = .ok (.iload_n 2, 1) := by decide +kernel
theorem dX5_readLeaf_34 : decode cX5_readLeaf 34 = .ok (.ifCond .eq 7, 3) := by decide +kernel
theorem dX5_readLeaf_37 : decode cX5_readLeaf 37 = .ok (.iconst 3, 1) := by decide +kernel
theorem dX5_readLeaf_38 : decode cX5_readLeaf 38 = .ok (.goto 4, 3) := by decide +kernel
theorem dX5_readLeaf_41 : decode cX5_readLeaf 41 = .ok (.iload_n 1, 1) := by decide +kernel
theorem dX5_readLeaf_42 : decode cX5_readLeaf 42 = .ok (.aload_n 0, 1) := by decide +kernel
theorem dX5_readLeaf_43 : decode cX5_readLeaf 43 = .ok (.getfield 77, 3) := by decide +kernel
theorem dX5_readLeaf_46 : decode cX5_readLeaf 46 = .ok (.getfield 114, 3) := by decide +kernel
theorem dX5_readLeaf_49 : decode cX5_readLeaf 49 = .ok (.invokevirtual 244, 3) := by decide +kernel
theorem dX5_readLeaf_52 : decode cX5_readLeaf 52 = .ok (.istore_n 3, 1) := by decide +kernel
theorem dX5_readLeaf_53 : decode cX5_readLeaf 53 = .ok (.iload_n 3, 1) := by decide +kernel
theorem dX5_readLeaf_54 : decode cX5_readLeaf 54 = .ok (.iconst (-1), 1) := by decide +kernel
theorem dX5_readLeaf_55 : decode cX5_readLeaf 55 = .ok (.if_icmp .eq 40, 3) := by decide +kernel
theorem dX5_readLeaf_58 : decode cX5_readLeaf 58 = .ok (.iload_n 2, 1) := by decide +kernel
theorem dX5_readLeaf_59 : decode cX5_readLeaf 59 = .ok (.ifCond .eq 36, 3) := by decide +kernel
theorem dX5_readLeaf_62 : decode cX5_readLeaf 62 = .ok (.aload_n 0, 1) := by decide +kernel
theorem dX5_readLeaf_63 : decode cX5_readLeaf 63 = .ok (.getfield 71, 3) := by decide +kernel
theorem dX5_readLeaf_66 : decode cX5_readLeaf 66 = .ok (.getfield 266, 3) := by decide +kernel
theorem dX5_readLeaf_69 : decode cX5_readLeaf 69 = .ok (.iload_n 3, 1) := by decide +kernel
theorem dX5_readLeaf_70 : decode cX5_readLeaf 70 = .ok (.iconst 0, 1) := by decide +kernel
theorem dX5_readLeaf_71 : decode cX5_readLeaf 71 = .ok (.iastore, 1) := by decide +kernel
theorem dX5_readLeaf_72 : decode cX5_readLeaf 72 = .ok (.aload_n 0, 1) := by decide +kernel
theorem dX5_readLeaf_73 : decode cX5_readLeaf 73 = .ok (.getfield 71, 3) := by decide +kernel
theorem dX5_readLeaf_76 : decode cX5_readLeaf 76 = .ok (.getfield 268, 3) := by decide +kernel
theorem dX5_readLeaf_79 : decode cX5_readLeaf 79 = .ok (.iload_n 3, 1) := by decide +kernel
theorem dX5_readLeaf_80 : decode cX5_readLeaf 80 = .ok (.iload_n 1, 1) := by decide +kernel
theorem dX5_readLeaf_81 : decode cX5_readLeaf 81 = .ok (.bipush 26, 2) := by decide +kernel
theorem dX5_readLeaf_83 : decode cX5_readLeaf 83 = .ok (.if_icmp .ne 7, 3) := by decide +kernel
theorem dX5_readLeaf_86 : decode cX5_readLeaf 86 = .ok (.lconst 1, 1) := by decide +kernel
theorem dX5_readLeaf_87 : decode cX5_readLeaf 87 = .ok (.goto 4, 3) := by decide +kernel
theorem dX5_readLeaf_90 : decode cX5_readLeaf 90 = .ok (.lconst 0, 1) := by decide +kernel
theorem dX5_readLeaf_91 : decode cX5_readLeaf 91 = .ok (.lastore, 1) := by decide +kernel
theorem dX5_readLeaf_92 : decode cX5_readLeaf 92 = .ok (.goto 61, 3) := by decide +kernel
theorem dX5_readLeaf_95 : decode cX5_readLeaf 95 = .ok (.iload_n 3, 1) := by decide +kernel
theorem dX5_readLeaf_96 : decode cX5_readLeaf 96 = .ok (.iconst (-1), 1) := by decide +kernel
theorem dX5_readLeaf_97 : decode cX5_readLeaf 97 = .ok (.if_icmp .eq 56, 3) := by decide +kernel
theorem dX5_readLeaf_100 : decode cX5_readLeaf 100 = .ok (.iload_n 1, 1) := by decide +kernel
theorem dX5_readLeaf_101 : decode cX5_readLeaf 101 = .ok (.iconst 3, 1) := by decide +kernel
theorem dX5_readLeaf_102 : decode cX5_readLeaf 102 = .ok (.if_icmp .ne 51, 3) := by decide +kernel
theorem dX5_readLeaf_105 : decode cX5_readLeaf 105 = .ok (.aload_n 0, 1) := by decide +kernel
theorem dX5_readLeaf_106 : decode cX5_readLeaf 106 = .ok (.getfield 71, 3) := by decide +kernel
theorem dX5_readLeaf_109 : decode cX5_readLeaf 109 = .ok (.getfield 266, 3) := by decide +kernel
theorem dX5_readLeaf_112 : decode cX5_readLeaf 112 = .ok (.iload_n 3, 1) := by decide +kernel
theorem dX5_readLeaf_113 : decode cX5_readLeaf 113 = .ok (.aload_n 0, 1) := by decide +kernel
theorem dX5_readLeaf_114 : decode cX5_readLeaf 114 = .ok (.getfield 77, 3) := by decide +kernel
theorem dX5_readLeaf_117 : decode cX5_readLeaf 117 = .ok (.getfield 194, 3) := by decide +kernel
theorem dX5_readLeaf_120 : decode cX5_readLeaf 120 = .ok (.iastore, 1) := by decide +kernel
theorem dX5_readLeaf_121 : decode cX5_readLeaf 121 = .ok (.aload_n 0, 1) := by decide +kernel
theorem dX5_readLeaf_122 : decode cX5_readLeaf 122 = .ok (.getfield 71, 3) := by decide +kernel
theorem dX5_readLeaf_125 : decode cX5_readLeaf 125 = .ok (.getfield 268, 3) := by decide +kernel
theorem dX5_readLeaf_128 : decode cX5_readLeaf 128 = .ok (.iload_n 3, 1) := by decide +kernel
theorem dX5_readLeaf_129 : decode cX5_readLeaf 129 = .ok (.aload_n 0, 1) := by decide +kernel
theorem dX5_readLeaf_130 : decode cX5_readLeaf 130 = .ok (.getfield 77, 3) := by decide +kernel
theorem dX5_readLeaf_133 : decode cX5_readLeaf 133 = .ok (.getfield 201, 3) := by decide +kernel
theorem dX5_readLeaf_136 : decode cX5_readLeaf 136 = .ok (.lastore, 1) := by decide +kernel
theorem dX5_readLeaf_137 : decode cX5_readLeaf 137 = .ok (.aload_n 0, 1) := by decide +kernel
theorem dX5_readLeaf_138 : decode cX5_readLeaf 138 = .ok (.getfield 71, 3) := by decide +kernel
theorem dX5_readLeaf_141 : decode cX5_readLeaf 141 = .ok (.getfield 271, 3) := by decide +kernel
theorem dX5_readLeaf_144 : decode cX5_readLeaf 144 = .ok (.iload_n 3, 1) := by decide +kernel
theorem dX5_readLeaf_145 : decode cX5_readLeaf 145 = .ok (.aload_n 0, 1) := by decide +kernel
theorem dX5_readLeaf_146 : decode cX5_readLeaf 146 = .ok (.getfield 77, 3) := by decide +kernel
theorem dX5_readLeaf_149 : decode cX5_readLeaf 149 = .ok (.getfield 197, 3) := by decide +kernel
theorem dX5_readLeaf_152 : decode cX5_readLeaf 152 = .ok (.dastore, 1) := by decide +kernel
theorem dX5_readLeaf_153 : decode cX5_readLeaf 153 = .ok (.iconst 3, 1) := by decide +kernel
theorem dX5_readLeaf_154 : decode cX5_readLeaf 154 = .ok (.ireturn, 1) := by decide +kernel
abbrev R_X5_readLeaf : Room := ({ frames := 2, cells := 0, slots := 0, locals := 42 } : Room)
def b_X5_readLeaf_95 (hT_15 : Nat) (gT : Gs) (gT_1 : Gs) (gT_15 : Gs) (v1 : Int32) (v3 : Int32) : Option (Int32 × Gs × Gs) :=
  if v3 = (-1 : Int32) then (some ((3 : Int32), gT, gT_15)) else (if v1 = (3 : Int32) then (grd (rEq (gR gT 15) hT_15) (grd (inB v3 840) (grd (rEq (gR gT 15) hT_15) (grd (inB v3 840) (grd (rEq (gR gT 15) hT_15) (grd (inB v3 840) (some ((3 : Int32), gT, (sDA (sLA (sIA gT_15 2 (upd (gIA gT_15 2) v3.toNatClampNeg (gI gT_1 7))) 6 (vp_updL (gLA gT_15 6) v3.toNatClampNeg (gL gT_1 8))) 7 (vf_upd (gDA gT_15 7) v3.toNatClampNeg (gD gT_1 9))))))))))) else (some ((3 : Int32), gT, gT_15)))
def b_X5_readLeaf_91 (hT_15 : Nat) (gT : Gs) (gT_1 : Gs) (gT_15 : Gs) (s0 : Int64) (s1 : Int32) : Option (Int32 × Gs × Gs) :=
  grd (inB s1 840) (some ((3 : Int32), gT, (sLA gT_15 6 (vp_updL (gLA gT_15 6) s1.toNatClampNeg s0))))
def b_X5_readLeaf_42 (hT_15 : Nat) (gT : Gs) (gT_1 : Gs) (gT_15 : Gs) (v1 : Int32) (v2 : Int32) (s0 : Int32) : Option (Int32 × Gs × Gs) :=
  bnd (f_X0_add gT_15 s0 (gI gT_1 5)) (fun q_4 => if q_4.1 = (-1 : Int32) then (b_X5_readLeaf_95 hT_15 gT gT_1 q_4.2 v1 q_4.1) else (if v2 = 0 then (b_X5_readLeaf_95 hT_15 gT gT_1 q_4.2 v1 q_4.1) else (grd (rEq (gR gT 15) hT_15) (grd (inB q_4.1 840) (grd (rEq (gR gT 15) hT_15) (if v1 = (26 : Int32) then (b_X5_readLeaf_91 hT_15 gT gT_1 (sIA q_4.2 2 (upd (gIA q_4.2 2) q_4.1.toNatClampNeg (0 : Int32))) (1 : Int64) q_4.1) else (b_X5_readLeaf_91 hT_15 gT gT_1 (sIA q_4.2 2 (upd (gIA q_4.2 2) q_4.1.toNatClampNeg (0 : Int32))) (0 : Int64) q_4.1)))))))
def b_X5_readLeaf_28 (hT_15 : Nat) (gT : Gs) (gT_1 : Gs) (gT_15 : Gs) (v1 : Int32) (s0 : Int32) : Option (Int32 × Gs × Gs) :=
  grd (rEq (gR gT 15) hT_15) (if s0 = 0 then (b_X5_readLeaf_42 hT_15 gT gT_1 gT_15 v1 s0 v1) else (b_X5_readLeaf_42 hT_15 gT gT_1 gT_15 v1 s0 (3 : Int32)))
def b_X5_readLeaf_23 (hT_15 : Nat) (gT : Gs) (gT_1 : Gs) (gT_15 : Gs) (v1 : Int32) : Option (Int32 × Gs × Gs) :=
  b_X5_readLeaf_28 hT_15 gT gT_1 gT_15 v1 (1 : Int32)
def f_X5_readLeaf (hT_15 : Nat) (gT : Gs) (gT_1 : Gs) (gT_15 : Gs) (x0 : Int32) : Option (Int32 × Gs × Gs) :=
  bnd (f_X5_countNode hT_15 gT gT_15 (gI gT_1 5)) (fun q_1 => if x0 = (26 : Int32) then (b_X5_readLeaf_23 hT_15 q_1.1 gT_1 q_1.2 x0) else (if x0 = (27 : Int32) then (b_X5_readLeaf_23 hT_15 q_1.1 gT_1 q_1.2 x0) else (b_X5_readLeaf_28 hT_15 q_1.1 gT_1 q_1.2 x0 (0 : Int32))))
def S_X5_readLeaf_95 (l : Launch) (D : Dx) (hT : Nat) (aT : Nat → Nat) (yT : Nat → ClassId) (aT_1 : Nat → Nat) (yT_1 : Nat → ClassId) (hT_15 : Nat) (aT_15 : Nat → Nat) (yT_15 : Nat → ClassId) (fn : Gs → Gs → Gs → Int32 → Int32 → Option (Int32 × Gs × Gs)) : Prop :=
  ∀ {p : Program} {e : Env} {s : State} {m : MethodId} {args : Array Value} {below : List Frame} {meth : Method} {c : Code} {H : Heap} {locs : List Loc} {A : Nat → Prop} {ls : Array Slot} {gT : Gs} {gT_1 : Gs} {gT_15 : Gs} {v1 : Int32} {v3 : Int32} {q : Int32 × Gs × Gs}, Cx p s m args meth c cX5_readLeaf (some .int) 4 RX5 lw_all → Hx D (tX5 yT ++ (tX7 yT_1 ++ (tX0 yT_15))) A s H locs (wX5 hT aT yT gT ++ (wX7 (aT 1) aT_1 yT_1 gT_1 ++ (wX0 hT_15 aT_15 yT_15 gT_15))) → lv_has ls 4 [(0, .ref hT), (1, .int v1), (3, .int v3)] → fn gT gT_1 gT_15 v1 v3 = some q → W p l e R_X5_readLeaf s m args below meth c H locs 0 0 (MQ below (QI D A (wX5 hT aT yT q.2.1 ++ (wX7 (aT 1) aT_1 yT_1 gT_1 ++ (wX0 hT_15 aT_15 yT_15 q.2.2))) q.1) args s 0 0 A) (F0 m 95 ls [])
def S_X5_readLeaf_91 (l : Launch) (D : Dx) (hT : Nat) (aT : Nat → Nat) (yT : Nat → ClassId) (aT_1 : Nat → Nat) (yT_1 : Nat → ClassId) (hT_15 : Nat) (aT_15 : Nat → Nat) (yT_15 : Nat → ClassId) (fn : Gs → Gs → Gs → Int64 → Int32 → Option (Int32 × Gs × Gs)) : Prop :=
  ∀ {p : Program} {e : Env} {s : State} {m : MethodId} {args : Array Value} {below : List Frame} {meth : Method} {c : Code} {H : Heap} {locs : List Loc} {A : Nat → Prop} {ls : Array Slot} {gT : Gs} {gT_1 : Gs} {gT_15 : Gs} {s0 : Int64} {s1 : Int32} {q : Int32 × Gs × Gs}, Cx p s m args meth c cX5_readLeaf (some .int) 4 RX5 lw_all → Hx D (tX5 yT ++ (tX7 yT_1 ++ (tX0 yT_15))) A s H locs (wX5 hT aT yT gT ++ (wX7 (aT 1) aT_1 yT_1 gT_1 ++ (wX0 hT_15 aT_15 yT_15 gT_15))) → lv_has ls 4 [] → fn gT gT_1 gT_15 s0 s1 = some q → W p l e R_X5_readLeaf s m args below meth c H locs 0 0 (MQ below (QI D A (wX5 hT aT yT q.2.1 ++ (wX7 (aT 1) aT_1 yT_1 gT_1 ++ (wX0 hT_15 aT_15 yT_15 q.2.2))) q.1) args s 0 0 A) (F0 m 91 ls [.long s0, .int s1, .ref (aT_15 6)])
def S_X5_readLeaf_42 (l : Launch) (D : Dx) (hT : Nat) (aT : Nat → Nat) (yT : Nat → ClassId) (aT_1 : Nat → Nat) (yT_1 : Nat → ClassId) (hT_15 : Nat) (aT_15 : Nat → Nat) (yT_15 : Nat → ClassId) (fn : Gs → Gs → Gs → Int32 → Int32 → Int32 → Option (Int32 × Gs × Gs)) : Prop :=
  ∀ {p : Program} {e : Env} {s : State} {m : MethodId} {args : Array Value} {below : List Frame} {meth : Method} {c : Code} {H : Heap} {locs : List Loc} {A : Nat → Prop} {ls : Array Slot} {gT : Gs} {gT_1 : Gs} {gT_15 : Gs} {v1 : Int32} {v2 : Int32} {s0 : Int32} {q : Int32 × Gs × Gs}, Cx p s m args meth c cX5_readLeaf (some .int) 4 RX5 lw_all → Hx D (tX5 yT ++ (tX7 yT_1 ++ (tX0 yT_15))) A s H locs (wX5 hT aT yT gT ++ (wX7 (aT 1) aT_1 yT_1 gT_1 ++ (wX0 hT_15 aT_15 yT_15 gT_15))) → lv_has ls 4 [(0, .ref hT), (1, .int v1), (2, .int v2)] → fn gT gT_1 gT_15 v1 v2 s0 = some q → W p l e R_X5_readLeaf s m args below meth c H locs 0 0 (MQ below (QI D A (wX5 hT aT yT q.2.1 ++ (wX7 (aT 1) aT_1 yT_1 gT_1 ++ (wX0 hT_15 aT_15 yT_15 q.2.2))) q.1) args s 0 0 A) (F0 m 42 ls [.int s0, .ref hT_15])
def S_X5_readLeaf_28 (l : Launch) (D : Dx) (hT : Nat) (aT : Nat → Nat) (yT : Nat → ClassId) (aT_1 : Nat → Nat) (yT_1 : Nat → ClassId) (hT_15 : Nat) (aT_15 : Nat → Nat) (yT_15 : Nat → ClassId) (fn : Gs → Gs → Gs → Int32 → Int32 → Option (Int32 × Gs × Gs)) : Prop :=
  ∀ {p : Program} {e : Env} {s : State} {m : MethodId} {args : Array Value} {below : List Frame} {meth : Method} {c : Code} {H : Heap} {locs : List Loc} {A : Nat → Prop} {ls : Array Slot} {gT : Gs} {gT_1 : Gs} {gT_15 : Gs} {v1 : Int32} {s0 : Int32} {q : Int32 × Gs × Gs}, Cx p s m args meth c cX5_readLeaf (some .int) 4 RX5 lw_all → Hx D (tX5 yT ++ (tX7 yT_1 ++ (tX0 yT_15))) A s H locs (wX5 hT aT yT gT ++ (wX7 (aT 1) aT_1 yT_1 gT_1 ++ (wX0 hT_15 aT_15 yT_15 gT_15))) → lv_has ls 4 [(0, .ref hT), (1, .int v1)] → fn gT gT_1 gT_15 v1 s0 = some q → W p l e R_X5_readLeaf s m args below meth c H locs 0 0 (MQ below (QI D A (wX5 hT aT yT q.2.1 ++ (wX7 (aT 1) aT_1 yT_1 gT_1 ++ (wX0 hT_15 aT_15 yT_15 q.2.2))) q.1) args s 0 0 A) (F0 m 28 ls [.int s0])
def S_X5_readLeaf_23 (l : Launch) (D : Dx) (hT : Nat) (aT : Nat → Nat) (yT : Nat → ClassId) (aT_1 : Nat → Nat) (yT_1 : Nat → ClassId) (hT_15 : Nat) (aT_15 : Nat → Nat) (yT_15 : Nat → ClassId) (fn : Gs → Gs → Gs → Int32 → Option (Int32 × Gs × Gs)) : Prop :=
  ∀ {p : Program} {e : Env} {s : State} {m : MethodId} {args : Array Value} {below : List Frame} {meth : Method} {c : Code} {H : Heap} {locs : List Loc} {A : Nat → Prop} {ls : Array Slot} {gT : Gs} {gT_1 : Gs} {gT_15 : Gs} {v1 : Int32} {q : Int32 × Gs × Gs}, Cx p s m args meth c cX5_readLeaf (some .int) 4 RX5 lw_all → Hx D (tX5 yT ++ (tX7 yT_1 ++ (tX0 yT_15))) A s H locs (wX5 hT aT yT gT ++ (wX7 (aT 1) aT_1 yT_1 gT_1 ++ (wX0 hT_15 aT_15 yT_15 gT_15))) → lv_has ls 4 [(0, .ref hT), (1, .int v1)] → fn gT gT_1 gT_15 v1 = some q → W p l e R_X5_readLeaf s m args below meth c H locs 0 0 (MQ below (QI D A (wX5 hT aT yT q.2.1 ++ (wX7 (aT 1) aT_1 yT_1 gT_1 ++ (wX0 hT_15 aT_15 yT_15 q.2.2))) q.1) args s 0 0 A) (F0 m 23 ls [])
set_option maxHeartbeats 4000000 in
set_option maxRecDepth 100000 in
theorem k_X5_readLeaf_95 (l : Launch) (D : Dx) (hT : Nat) (aT : Nat → Nat) (yT : Nat → ClassId) (aT_1 : Nat → Nat) (yT_1 : Nat → ClassId) (hT_15 : Nat) (aT_15 : Nat → Nat) (yT_15 : Nat → ClassId) : S_X5_readLeaf_95 l D hT aT yT aT_1 yT_1 hT_15 aT_15 yT_15 (b_X5_readLeaf_95 hT_15) := by
  intro p e s m args below meth c H locs A ls gT gT_1 gT_15 v1 v3 q C X hl hF
  obtain ⟨hx, hb, hr, hml, hown, hts, hlk⟩ := id C
  unfold b_X5_readLeaf_95 at hF
  refine lv_iload_n hx hb dX5_readLeaf_95 rfl (lv_at hl 2 rfl) ?_
  refine lv_iconst (v := (-1 : Int32)) hx hb dX5_readLeaf_96 (by decide) ?_
  refine lv_icmp_eq (tgt := 153) hx hb dX5_readLeaf_97 (by decide) (fun c => ?_) (fun c => ?_)
  · replace hF := iT c hF
    refine lv_iconst (v := (3 : Int32)) hx hb dX5_readLeaf_153 (by decide) ?_
    have hq := Option.some.inj hF
    subst hq
    exact rt_i C X dX5_readLeaf_154
  · replace hF := iF c hF
    refine lv_iload_n hx hb dX5_readLeaf_100 rfl (lv_at hl 1 rfl) ?_
    refine lv_iconst (v := (3 : Int32)) hx hb dX5_readLeaf_101 (by decide) ?_
    refine lv_icmp_ne (tgt := 153) hx hb dX5_readLeaf_102 (by decide) (fun c => ?_) (fun c => ?_)
    · replace hF := iF c hF
      refine lv_iconst (v := (3 : Int32)) hx hb dX5_readLeaf_153 (by decide) ?_
      have hq := Option.some.inj hF
      subst hq
      exact rt_i C X dX5_readLeaf_154
    · replace hF := iT c hF
      refine lv_aload_n hx hb dX5_readLeaf_105 rfl (lv_at hl 0 rfl) ?_
      obtain ⟨h_6, hF⟩ := grd_some hF
      refine va_get (D := D.1) (ci := 5) (v := .ref hT_15) (C := RX5) (T := TX5) (N := 18) hx hb hts wi_X5 hown X.1 X.2.1 0 rfl rfl 15 (by decide) (hts _ q3_66) (fun _ h9 => h9) ((fl_get (by decide)).trans (rf_eq h_6)) dX5_readLeaf_106 ?_
      refine va_getN (D := D.1) (ci := 0) (v := .ref (aT_15 2)) (C := RX0) (T := TX0) (N := 19) hx hb hts wi_X0 hown X.1 X.2.1 6 rfl rfl 2 (by decide) (X.2.2.2.2.2.1.use q1_217 rfl) (fun _ h9 => h9) (fl_get (by decide)) dX5_readLeaf_109 ?_
      refine lv_iload_n hx hb dX5_readLeaf_112 rfl (lv_at hl 2 rfl) ?_
      refine lv_aload_n hx hb dX5_readLeaf_113 rfl (lv_at hl 0 rfl) ?_
      refine va_get (D := D.1) (ci := 5) (v := .ref (aT 1)) (C := RX5) (T := TX5) (N := 18) hx hb hts wi_X5 hown X.1 X.2.1 0 rfl rfl 1 (by decide) (hts _ q3_52) (fun _ h9 => h9) (fl_get (by decide)) dX5_readLeaf_114 ?_
      refine va_getN (D := D.1) (ci := 7) (v := .int (gI gT_1 7)) (C := RX7) (T := TX7) (N := 12) hx hb hts wi_X7 hown X.1 X.2.1 5 rfl rfl 7 (by decide) (X.2.2.2.2.2.1.use q3_6 rfl) (fun _ h9 => h9) (fl_get (by decide)) dX5_readLeaf_117 ?_
      obtain ⟨h_7, hF⟩ := grd_some hF
      refine va_iast (D := D.1) (f := gIA gT_15 2) hx hb X.1 X.2.1 X.2.2.1 X.2.2.2.1 9 6 rfl rfl (inB_ok h_7) dX5_readLeaf_120 (fun H locs hP hD hS => ?_)
      have X : Hx D (tX5 yT ++ (tX7 yT_1 ++ (tX0 yT_15))) A s H locs (wX5 hT aT yT gT ++ (wX7 (aT 1) aT_1 yT_1 gT_1 ++ (wX0 hT_15 aT_15 yT_15 (sIA gT_15 2 (upd (gIA gT_15 2) v3.toNatClampNeg (gI gT_1 7)))))) := Hx_set X (set_r (n := 5) (i := 4) (j := 9) (wG_len rfl) rfl (set_r (n := 1) (i := 3) (j := 4) (wG_len rfl) rfl (wG_sIA (i := 2) (k := 2) ndX0 rfl rfl))) hP hD hS
      refine lv_aload_n hx hb dX5_readLeaf_121 rfl (lv_at hl 0 rfl) ?_
      obtain ⟨h_8, hF⟩ := grd_some hF
      refine va_get (D := D.1) (ci := 5) (v := .ref hT_15) (C := RX5) (T := TX5) (N := 18) hx hb hts wi_X5 hown X.1 X.2.1 0 rfl rfl 15 (by decide) (hts _ q3_66) (fun _ h9 => h9) ((fl_get (by decide)).trans (rf_eq h_8)) dX5_readLeaf_122 ?_
      refine va_getN (D := D.1) (ci := 0) (v := .ref (aT_15 6)) (C := RX0) (T := TX0) (N := 19) hx hb hts wi_X0 hown X.1 X.2.1 6 rfl rfl 6 (by decide) (X.2.2.2.2.2.1.use q1_233 rfl) (fun _ h9 => h9) (fl_get (by decide)) dX5_readLeaf_125 ?_
      refine lv_iload_n hx hb dX5_readLeaf_128 rfl (lv_at hl 2 rfl) ?_
      refine lv_aload_n hx hb dX5_readLeaf_129 rfl (lv_at hl 0 rfl) ?_
      refine va_get (D := D.1) (ci := 5) (v := .ref (aT 1)) (C := RX5) (T := TX5) (N := 18) hx hb hts wi_X5 hown X.1 X.2.1 0 rfl rfl 1 (by decide) (hts _ q3_52) (fun _ h9 => h9) (fl_get (by decide)) dX5_readLeaf_130 ?_
      refine va_getN (D := D.1) (ci := 7) (v := .long (gL gT_1 8)) (C := RX7) (T := TX7) (N := 12) hx hb hts wi_X7 hown X.1 X.2.1 5 rfl rfl 8 (by decide) (X.2.2.2.2.2.1.use q3_8 rfl) (fun _ h9 => h9) (fl_get (by decide)) dX5_readLeaf_133 ?_
      obtain ⟨h_9, hF⟩ := grd_some hF
      refine va_last (D := D.1) (f := gLA gT_15 6) hx hb X.1 X.2.1 X.2.2.1 X.2.2.2.1 13 10 rfl rfl (inB_ok h_9) dX5_readLeaf_136 (fun H locs hP hD hS => ?_)
      have X : Hx D (tX5 yT ++ (tX7 yT_1 ++ (tX0 yT_15))) A s H locs (wX5 hT aT yT gT ++ (wX7 (aT 1) aT_1 yT_1 gT_1 ++ (wX0 hT_15 aT_15 yT_15 (sLA (sIA gT_15 2 (upd (gIA gT_15 2) v3.toNatClampNeg (gI gT_1 7))) 6 (vp_updL (gLA gT_15 6) v3.toNatClampNeg (gL gT_1 8)))))) := Hx_set X (set_r (n := 5) (i := 8) (j := 13) (wG_len rfl) rfl (set_r (n := 1) (i := 7) (j := 8) (wG_len rfl) rfl (wG_sLA (i := 6) (k := 6) ndX0 rfl rfl))) hP hD hS
      refine lv_aload_n hx hb dX5_readLeaf_137 rfl (lv_at hl 0 rfl) ?_
      obtain ⟨h_10, hF⟩ := grd_some hF
      refine va_get (D := D.1) (ci := 5) (v := .ref hT_15) (C := RX5) (T := TX5) (N := 18) hx hb hts wi_X5 hown X.1 X.2.1 0 rfl rfl 15 (by decide) (hts _ q3_66) (fun _ h9 => h9) ((fl_get (by decide)).trans (rf_eq h_10)) dX5_readLeaf_138 ?_
      refine va_getN (D := D.1) (ci := 0) (v := .ref (aT_15 7)) (C := RX0) (T := TX0) (N := 19) hx hb hts wi_X0 hown X.1 X.2.1 6 rfl rfl 7 (by decide) (X.2.2.2.2.2.1.use q1_236 rfl) (fun _ h9 => h9) (fl_get (by decide)) dX5_readLeaf_141 ?_
      refine lv_iload_n hx hb dX5_readLeaf_144 rfl (lv_at hl 2 rfl) ?_
      refine lv_aload_n hx hb dX5_readLeaf_145 rfl (lv_at hl 0 rfl) ?_
      refine va_get (D := D.1) (ci := 5) (v := .ref (aT 1)) (C := RX5) (T := TX5) (N := 18) hx hb hts wi_X5 hown X.1 X.2.1 0 rfl rfl 1 (by decide) (hts _ q3_52) (fun _ h9 => h9) (fl_get (by decide)) dX5_readLeaf_146 ?_
      refine va_getN (D := D.1) (ci := 7) (v := .double (gD gT_1 9)) (C := RX7) (T := TX7) (N := 12) hx hb hts wi_X7 hown X.1 X.2.1 5 rfl rfl 9 (by decide) (X.2.2.2.2.2.1.use q3_10 rfl) (fun _ h9 => h9) (fl_get (by decide)) dX5_readLeaf_149 ?_
      obtain ⟨h_11, hF⟩ := grd_some hF
      refine va_dast (D := D.1) (f := gDA gT_15 7) hx hb X.1 X.2.1 X.2.2.1 X.2.2.2.1 14 11 rfl rfl (inB_ok h_11) dX5_readLeaf_152 (fun H locs hP hD hS => ?_)
      have X : Hx D (tX5 yT ++ (tX7 yT_1 ++ (tX0 yT_15))) A s H locs (wX5 hT aT yT gT ++ (wX7 (aT 1) aT_1 yT_1 gT_1 ++ (wX0 hT_15 aT_15 yT_15 (sDA (sLA (sIA gT_15 2 (upd (gIA gT_15 2) v3.toNatClampNeg (gI gT_1 7))) 6 (vp_updL (gLA gT_15 6) v3.toNatClampNeg (gL gT_1 8))) 7 (vf_upd (gDA gT_15 7) v3.toNatClampNeg (gD gT_1 9)))))) := Hx_set X (set_r (n := 5) (i := 9) (j := 14) (wG_len rfl) rfl (set_r (n := 1) (i := 8) (j := 9) (wG_len rfl) rfl (wG_sDA (i := 7) (k := 7) ndX0 rfl rfl))) hP hD hS
      refine lv_iconst (v := (3 : Int32)) hx hb dX5_readLeaf_153 (by decide) ?_
      have hq := Option.some.inj hF
      subst hq
      exact rt_i C X dX5_readLeaf_154
set_option maxHeartbeats 4000000 in
set_option maxRecDepth 100000 in
theorem k_X5_readLeaf_91 (l : Launch) (D : Dx) (hT : Nat) (aT : Nat → Nat) (yT : Nat → ClassId) (aT_1 : Nat → Nat) (yT_1 : Nat → ClassId) (hT_15 : Nat) (aT_15 : Nat → Nat) (yT_15 : Nat → ClassId) : S_X5_readLeaf_91 l D hT aT yT aT_1 yT_1 hT_15 aT_15 yT_15 (b_X5_readLeaf_91 hT_15) := by
  intro p e s m args below meth c H locs A ls gT gT_1 gT_15 s0 s1 q C X hl hF
  obtain ⟨hx, hb, hr, hml, hown, hts, hlk⟩ := id C
  unfold b_X5_readLeaf_91 at hF
  obtain ⟨h_15, hF⟩ := grd_some hF
  refine va_last (D := D.1) (f := gLA gT_15 6) hx hb X.1 X.2.1 X.2.2.1 X.2.2.2.1 13 10 rfl rfl (inB_ok h_15) dX5_readLeaf_91 (fun H locs hP hD hS => ?_)
  have X : Hx D (tX5 yT ++ (tX7 yT_1 ++ (tX0 yT_15))) A s H locs (wX5 hT aT yT gT ++ (wX7 (aT 1) aT_1 yT_1 gT_1 ++ (wX0 hT_15 aT_15 yT_15 (sLA gT_15 6 (vp_updL (gLA gT_15 6) s1.toNatClampNeg s0))))) := Hx_set X (set_r (n := 5) (i := 8) (j := 13) (wG_len rfl) rfl (set_r (n := 1) (i := 7) (j := 8) (wG_len rfl) rfl (wG_sLA (i := 6) (k := 6) ndX0 rfl rfl))) hP hD hS
  refine lv_goto (tgt := 153) hx hb dX5_readLeaf_92 (by decide) ?_
  refine lv_iconst (v := (3 : Int32)) hx hb dX5_readLeaf_153 (by decide) ?_
  have hq := Option.some.inj hF
  subst hq
  exact rt_i C X dX5_readLeaf_154
set_option maxHeartbeats 4000000 in
set_option maxRecDepth 100000 in
theorem k_X5_readLeaf_42 (l : Launch) (D : Dx) (hT : Nat) (aT : Nat → Nat) (yT : Nat → ClassId) (aT_1 : Nat → Nat) (yT_1 : Nat → ClassId) (hT_15 : Nat) (aT_15 : Nat → Nat) (yT_15 : Nat → ClassId) : S_X5_readLeaf_42 l D hT aT yT aT_1 yT_1 hT_15 aT_15 yT_15 (b_X5_readLeaf_42 hT_15) := by
  intro p e s m args below meth c H locs A ls gT gT_1 gT_15 v1 v2 s0 q C X hl hF
  obtain ⟨hx, hb, hr, hml, hown, hts, hlk⟩ := id C
  unfold b_X5_readLeaf_42 at hF
  refine lv_aload_n hx hb dX5_readLeaf_42 rfl (lv_at hl 0 rfl) ?_
  refine va_get (D := D.1) (ci := 5) (v := .ref (aT 1)) (C := RX5) (T := TX5) (N := 18) hx hb hts wi_X5 hown X.1 X.2.1 0 rfl rfl 1 (by decide) (hts _ q3_52) (fun _ h9 => h9) (fl_get (by decide)) dX5_readLeaf_43 ?_
  refine va_getN (D := D.1) (ci := 7) (v := .int (gI gT_1 5)) (C := RX7) (T := TX7) (N := 12) hx hb hts wi_X7 hown X.1 X.2.1 5 rfl rfl 5 (by decide) (X.2.2.2.2.2.1.use q3_2 rfl) (fun _ h9 => h9) (fl_get (by decide)) dX5_readLeaf_46 ?_
  obtain ⟨q_4, hc_5, hF⟩ := bnd_some hF
  refine cV_i (As := [.int s0, .int (gI gT_1 5)]) (rest := []) C X (c_X0_add l D hT_15 aT_15 yT_15 gT_15 s0 (gI gT_1 5) q_4 hc_5 _) (cwV 2 hts (good_V q4_101 q4_102 q4_103 q1_8 q4_104) rfl rfl rfl (by decide +kernel) ⟨Nat.le_of_ble_eq_true rfl, Nat.le_of_ble_eq_true rfl⟩) (va_recv X.1 X.2.1 (ci := 0) (q0 := 6) rfl rfl) (X.1.sub (tys' := tX0 yT_15) [4, 5, 6, 7, 8, 9, 10, 11, 12, 13, 14, 15, 16, 17, 18] rfl) (X.2.1.sub (ws' := wX0 hT_15 aT_15 yT_15 gT_15) [6, 7, 8, 9, 10, 11, 12, 13, 14, 15, 16, 17, 18, 19, 20, 21] rfl) (X.2.2.1.sub (ws' := wX0 hT_15 aT_15 yT_15 gT_15) [6, 7, 8, 9, 10, 11, 12, 13, 14, 15, 16, 17, 18, 19, 20, 21] (by decide) rfl) (free_of (wC := wX0 hT_15 aT_15 yT_15 gT_15) (isC := [6, 7, 8, 9, 10, 11, 12, 13, 14, 15, 16, 17, 18, 19, 20, 21]) X rfl) hl.1 rfl rfl (Nat.le_of_ble_eq_true rfl) dX5_readLeaf_49 ⟨Nat.le_of_ble_eq_true rfl, Nat.le_of_ble_eq_true rfl⟩ (fun t H1 locs1 ht hB hk hS => ?_)
  have X : Hx D (tX5 yT ++ (tX7 yT_1 ++ (tX0 yT_15))) A s H1 locs1 (wX5 hT aT yT gT ++ (wX7 (aT 1) aT_1 yT_1 gT_1 ++ (wX0 hT_15 aT_15 yT_15 q_4.2))) := Hx_after (isC := [6, 7, 8, 9, 10, 11, 12, 13, 14, 15, 16, 17, 18, 19, 20, 21]) (isR := [0, 1, 2, 3, 4, 5]) (pm := [0, 1, 2, 3, 4, 5, 6, 7, 8, 9, 10, 11, 12, 13, 14, 15, 16, 17, 18, 19, 20, 21]) (wr := wX5 hT aT yT gT ++ (wX7 (aT 1) aT_1 yT_1 gT_1)) X ⟨rfl, rfl, by decide, by decide, rfl, by decide⟩ ht hB hk hS
  clear hk hS ht hB
  generalize H1 = H at X ⊢
  generalize locs1 = locs at X ⊢
  refine lv_istore_n (lv' := [(3, .int q_4.1), (0, .ref hT), (1, .int v1), (2, .int v2)]) hx hb dX5_readLeaf_52 rfl hl (by decide) rfl (fun ls hl => ?_)
  refine lv_iload_n hx hb dX5_readLeaf_53 rfl (lv_at hl 0 rfl) ?_
  refine lv_iconst (v := (-1 : Int32)) hx hb dX5_readLeaf_54 (by decide) ?_
  refine lv_icmp_eq (tgt := 95) hx hb dX5_readLeaf_55 (by decide) (fun c => ?_) (fun c => ?_)
  · replace hF := iT c hF
    exact (k_X5_readLeaf_95 l D hT aT yT aT_1 yT_1 hT_15 aT_15 yT_15) C X (lv_sub hl [1, 2, 0] rfl) hF
  · replace hF := iF c hF
    refine lv_iload_n hx hb dX5_readLeaf_58 rfl (lv_at hl 3 rfl) ?_
    refine lv_if_eq (tgt := 95) hx hb dX5_readLeaf_59 (by decide) (fun c => ?_) (fun c => ?_)
    · replace hF := iT c hF
      exact (k_X5_readLeaf_95 l D hT aT yT aT_1 yT_1 hT_15 aT_15 yT_15) C X (lv_sub hl [1, 2, 0] rfl) hF
    · replace hF := iF c hF
      refine lv_aload_n hx hb dX5_readLeaf_62 rfl (lv_at hl 1 rfl) ?_
      obtain ⟨h_12, hF⟩ := grd_some hF
      refine va_get (D := D.1) (ci := 5) (v := .ref hT_15) (C := RX5) (T := TX5) (N := 18) hx hb hts wi_X5 hown X.1 X.2.1 0 rfl rfl 15 (by decide) (hts _ q3_66) (fun _ h9 => h9) ((fl_get (by decide)).trans (rf_eq h_12)) dX5_readLeaf_63 ?_
      refine va_getN (D := D.1) (ci := 0) (v := .ref (aT_15 2)) (C := RX0) (T := TX0) (N := 19) hx hb hts wi_X0 hown X.1 X.2.1 6 rfl rfl 2 (by decide) (X.2.2.2.2.2.1.use q1_217 rfl) (fun _ h9 => h9) (fl_get (by decide)) dX5_readLeaf_66 ?_
      refine lv_iload_n hx hb dX5_readLeaf_69 rfl (lv_at hl 0 rfl) ?_
      refine lv_iconst (v := (0 : Int32)) hx hb dX5_readLeaf_70 (by decide) ?_
      obtain ⟨h_13, hF⟩ := grd_some hF
      refine va_iast (D := D.1) (f := gIA q_4.2 2) hx hb X.1 X.2.1 X.2.2.1 X.2.2.2.1 9 6 rfl rfl (inB_ok h_13) dX5_readLeaf_71 (fun H locs hP hD hS => ?_)
      have X : Hx D (tX5 yT ++ (tX7 yT_1 ++ (tX0 yT_15))) A s H locs (wX5 hT aT yT gT ++ (wX7 (aT 1) aT_1 yT_1 gT_1 ++ (wX0 hT_15 aT_15 yT_15 (sIA q_4.2 2 (upd (gIA q_4.2 2) q_4.1.toNatClampNeg (0 : Int32)))))) := Hx_set X (set_r (n := 5) (i := 4) (j := 9) (wG_len rfl) rfl (set_r (n := 1) (i := 3) (j := 4) (wG_len rfl) rfl (wG_sIA (i := 2) (k := 2) ndX0 rfl rfl))) hP hD hS
      refine lv_aload_n hx hb dX5_readLeaf_72 rfl (lv_at hl 1 rfl) ?_
      obtain ⟨h_14, hF⟩ := grd_some hF
      refine va_get (D := D.1) (ci := 5) (v := .ref hT_15) (C := RX5) (T := TX5) (N := 18) hx hb hts wi_X5 hown X.1 X.2.1 0 rfl rfl 15 (by decide) (hts _ q3_66) (fun _ h9 => h9) ((fl_get (by decide)).trans (rf_eq h_14)) dX5_readLeaf_73 ?_
      refine va_getN (D := D.1) (ci := 0) (v := .ref (aT_15 6)) (C := RX0) (T := TX0) (N := 19) hx hb hts wi_X0 hown X.1 X.2.1 6 rfl rfl 6 (by decide) (X.2.2.2.2.2.1.use q1_233 rfl) (fun _ h9 => h9) (fl_get (by decide)) dX5_readLeaf_76 ?_
      refine lv_iload_n hx hb dX5_readLeaf_79 rfl (lv_at hl 0 rfl) ?_
      refine lv_iload_n hx hb dX5_readLeaf_80 rfl (lv_at hl 2 rfl) ?_
      refine lv_bipush (v := (26 : Int32)) hx hb dX5_readLeaf_81 (by decide) ?_
      refine lv_icmp_ne (tgt := 90) hx hb dX5_readLeaf_83 (by decide) (fun c => ?_) (fun c => ?_)
      · replace hF := iF c hF
        refine lv_lconst (v := (0 : Int64)) hx hb dX5_readLeaf_90 (by decide) ?_
        exact (k_X5_readLeaf_91 l D hT aT yT aT_1 yT_1 hT_15 aT_15 yT_15) C X (lv_sub hl [] rfl) hF
      · replace hF := iT c hF
        refine lv_lconst (v := (1 : Int64)) hx hb dX5_readLeaf_86 (by decide) ?_
        refine lv_goto (tgt := 91) hx hb dX5_readLeaf_87 (by decide) ?_
        exact (k_X5_readLeaf_91 l D hT aT yT aT_1 yT_1 hT_15 aT_15 yT_15) C X (lv_sub hl [] rfl) hF
set_option maxHeartbeats 4000000 in
set_option maxRecDepth 100000 in
theorem k_X5_readLeaf_28 (l : Launch) (D : Dx) (hT : Nat) (aT : Nat → Nat) (yT : Nat → ClassId) (aT_1 : Nat → Nat) (yT_1 : Nat → ClassId) (hT_15 : Nat) (aT_15 : Nat → Nat) (yT_15 : Nat → ClassId) : S_X5_readLeaf_28 l D hT aT yT aT_1 yT_1 hT_15 aT_15 yT_15 (b_X5_readLeaf_28 hT_15) := by
  intro p e s m args below meth c H locs A ls gT gT_1 gT_15 v1 s0 q C X hl hF
  obtain ⟨hx, hb, hr, hml, hown, hts, hlk⟩ := id C
  unfold b_X5_readLeaf_28 at hF
  refine lv_istore_n (lv' := [(2, .int s0), (0, .ref hT), (1, .int v1)]) hx hb dX5_readLeaf_28 rfl hl (by decide) rfl (fun ls hl => ?_)
  refine lv_aload_n hx hb dX5_readLeaf_29 rfl (lv_at hl 1 rfl) ?_
  obtain ⟨h_3, hF⟩ := grd_some hF
  refine va_get (D := D.1) (ci := 5) (v := .ref hT_15) (C := RX5) (T := TX5) (N := 18) hx hb hts wi_X5 hown X.1 X.2.1 0 rfl rfl 15 (by decide) (hts _ q3_66) (fun _ h9 => h9) ((fl_get (by decide)).trans (rf_eq h_3)) dX5_readLeaf_30 ?_
  refine lv_iload_n hx hb dX5_readLeaf_33 rfl (lv_at hl 0 rfl) ?_
  refine lv_if_eq (tgt := 41) hx hb dX5_readLeaf_34 (by decide) (fun c => ?_) (fun c => ?_)
  · replace hF := iT c hF
    refine lv_iload_n hx hb dX5_readLeaf_41 rfl (lv_at hl 2 rfl) ?_
    exact (k_X5_readLeaf_42 l D hT aT yT aT_1 yT_1 hT_15 aT_15 yT_15) C X (lv_sub hl [1, 2, 0] rfl) hF
  · replace hF := iF c hF
    refine lv_iconst (v := (3 : Int32)) hx hb dX5_readLeaf_37 (by decide) ?_
    refine lv_goto (tgt := 42) hx hb dX5_readLeaf_38 (by decide) ?_
    exact (k_X5_readLeaf_42 l D hT aT yT aT_1 yT_1 hT_15 aT_15 yT_15) C X (lv_sub hl [1, 2, 0] rfl) hF
set_option maxHeartbeats 4000000 in
set_option maxRecDepth 100000 in
theorem k_X5_readLeaf_23 (l : Launch) (D : Dx) (hT : Nat) (aT : Nat → Nat) (yT : Nat → ClassId) (aT_1 : Nat → Nat) (yT_1 : Nat → ClassId) (hT_15 : Nat) (aT_15 : Nat → Nat) (yT_15 : Nat → ClassId) : S_X5_readLeaf_23 l D hT aT yT aT_1 yT_1 hT_15 aT_15 yT_15 (b_X5_readLeaf_23 hT_15) := by
  intro p e s m args below meth c H locs A ls gT gT_1 gT_15 v1 q C X hl hF
  obtain ⟨hx, hb, hr, hml, hown, hts, hlk⟩ := id C
  unfold b_X5_readLeaf_23 at hF
  refine lv_iconst (v := (1 : Int32)) hx hb dX5_readLeaf_23 (by decide) ?_
  refine lv_goto (tgt := 28) hx hb dX5_readLeaf_24 (by decide) ?_
  exact (k_X5_readLeaf_28 l D hT aT yT aT_1 yT_1 hT_15 aT_15 yT_15) C X (lv_sub hl [0, 1] rfl) hF
set_option maxHeartbeats 4000000 in
set_option maxRecDepth 100000 in
theorem c_X5_readLeaf (l : Launch) (D : Dx) (hT : Nat) (aT : Nat → Nat) (yT : Nat → ClassId) (aT_1 : Nat → Nat) (yT_1 : Nat → ClassId) (hT_15 : Nat) (aT_15 : Nat → Nat) (yT_15 : Nat → ClassId) (gT : Gs) (gT_1 : Gs) (gT_15 : Gs) (x0 : Int32) (q : Int32 × Gs × Gs) (hF : f_X5_readLeaf hT_15 gT gT_1 gT_15 x0 = some q) (sz : Nat) : Met l yX5_readLeaf (ws_ yX5_readLeaf cX5_readLeaf 4 (some .int)) R_X5_readLeaf (PC D (tX5 yT ++ (tX7 yT_1 ++ (tX0 yT_15))) [.ref hT, .int x0] (wX5 hT aT yT gT ++ (wX7 (aT 1) aT_1 yT_1 gT_1 ++ (wX0 hT_15 aT_15 yT_15 gT_15))) sz) (QI D (va_A (wX5 hT aT yT gT ++ (wX7 (aT 1) aT_1 yT_1 gT_1 ++ (wX0 hT_15 aT_15 yT_15 gT_15))) sz) (wX5 hT aT yT q.2.1 ++ (wX7 (aT 1) aT_1 yT_1 gT_1 ++ (wX0 hT_15 aT_15 yT_15 q.2.2))) q.1) 0 0 (va_A (wX5 hT aT yT gT ++ (wX7 (aT 1) aT_1 yT_1 gT_1 ++ (wX0 hT_15 aT_15 yT_15 gT_15))) sz) := by
  refine Met.ofW (cc := cX5_readLeaf) (maxL := 4) (ret := (some .int)) (by decide) rfl ?_
  intro p e s m args below meth c s₁ B hml hv
  obtain ⟨rfl, hsz, hP, hK, hD, hN⟩ := hv
  subst hsz
  have C : Cx p s m _ meth c cX5_readLeaf (some .int) 4 RX5 lw_all := Cx_of B hml
  have X := Hx_start hP hK hD hN
  obtain ⟨hx, hb, hr, -, hown, hts, hlk⟩ := id C
  generalize va_A (wX5 hT aT yT gT ++ (wX7 (aT 1) aT_1 yT_1 gT_1 ++ (wX0 hT_15 aT_15 yT_15 gT_15))) s.heap.size = A at X ⊢
  have hl := lv_entry ([.ref hT, .int x0]) (n := 4) (Nat.le_of_ble_eq_true rfl)
  rw [lg_entry_eq]
  generalize (lg_sl ([.ref hT, .int x0]) ++ List.replicate (4 - (lg_sl ([.ref hT, .int x0])).length) Slot.unset).toArray = ls at hl ⊢
  have hl : lv_has ls 4 [(0, .ref hT), (1, .int x0)] := hl
  unfold f_X5_readLeaf at hF
  refine lv_aload_n hx hb dX5_readLeaf_0 rfl (lv_at hl 0 rfl) ?_
  refine lv_aload_n hx hb dX5_readLeaf_1 rfl (lv_at hl 0 rfl) ?_
  refine va_get (D := D.1) (ci := 5) (v := .ref (aT 1)) (C := RX5) (T := TX5) (N := 18) hx hb hts wi_X5 hown X.1 X.2.1 0 rfl rfl 1 (by decide) (hts _ q3_52) (fun _ h9 => h9) (fl_get (by decide)) dX5_readLeaf_2 ?_
  refine va_getN (D := D.1) (ci := 7) (v := .int (gI gT_1 5)) (C := RX7) (T := TX7) (N := 12) hx hb hts wi_X7 hown X.1 X.2.1 5 rfl rfl 5 (by decide) (X.2.2.2.2.2.1.use q3_2 rfl) (fun _ h9 => h9) (fl_get (by decide)) dX5_readLeaf_5 ?_
  obtain ⟨q_1, hc_2, hF⟩ := bnd_some hF
  refine cV_v (As := [.int (gI gT_1 5)]) (rest := []) C X (c_X5_countNode l D hT aT yT hT_15 aT_15 yT_15 gT gT_15 (gI gT_1 5) q_1 hc_2 _) (cwV 1 hts (good_V q4_113 q4_115 q0_21 q1_10 q4_116) rfl rfl rfl (by decide +kernel) ⟨Nat.le_of_ble_eq_true rfl, Nat.le_of_ble_eq_true rfl⟩) (va_recv X.1 X.2.1 (ci := 5) (q0 := 0) rfl rfl) (X.1.sub (tys' := tX5 yT ++ (tX0 yT_15)) [0, 1, 2, 3, 4, 5, 6, 7, 8, 9, 10, 11, 12, 13, 14, 15, 16, 17, 18] rfl) (X.2.1.sub (ws' := wX5 hT aT yT gT ++ (wX0 hT_15 aT_15 yT_15 gT_15)) [0, 1, 2, 3, 4, 6, 7, 8, 9, 10, 11, 12, 13, 14, 15, 16, 17, 18, 19, 20, 21] rfl) (X.2.2.1.sub (ws' := wX5 hT aT yT gT ++ (wX0 hT_15 aT_15 yT_15 gT_15)) [0, 1, 2, 3, 4, 6, 7, 8, 9, 10, 11, 12, 13, 14, 15, 16, 17, 18, 19, 20, 21] (by decide) rfl) (free_of (wC := wX5 hT aT yT gT ++ (wX0 hT_15 aT_15 yT_15 gT_15)) (isC := [0, 1, 2, 3, 4, 6, 7, 8, 9, 10, 11, 12, 13, 14, 15, 16, 17, 18, 19, 20, 21]) X rfl) hl.1 rfl rfl (Nat.le_of_ble_eq_true rfl) dX5_readLeaf_8 ⟨Nat.le_of_ble_eq_true rfl, Nat.le_of_ble_eq_true rfl⟩ (fun t H1 locs1 ht hB hk hS => ?_)
  have X : Hx D (tX5 yT ++ (tX7 yT_1 ++ (tX0 yT_15))) A s H1 locs1 (wX5 hT aT yT q_1.1 ++ (wX7 (aT 1) aT_1 yT_1 gT_1 ++ (wX0 hT_15 aT_15 yT_15 q_1.2))) := Hx_after (isC := [0, 1, 2, 3, 4, 6, 7, 8, 9, 10, 11, 12, 13, 14, 15, 16, 17, 18, 19, 20, 21]) (isR := [5]) (pm := [1, 2, 3, 4, 5, 0, 6, 7, 8, 9, 10, 11, 12, 13, 14, 15, 16, 17, 18, 19, 20, 21]) (wr := wX7 (aT 1) aT_1 yT_1 gT_1) X ⟨rfl, rfl, by decide, by decide, rfl, by decide⟩ ht hB hk hS
  clear hk hS ht hB
  generalize H1 = H at X ⊢
  generalize locs1 = locs at X ⊢
  refine lv_iload_n hx hb dX5_readLeaf_11 rfl (lv_at hl 1 rfl) ?_
  refine lv_bipush (v := (26 : Int32)) hx hb dX5_readLeaf_12 (by decide) ?_
  refine lv_icmp_eq (tgt := 23) hx hb dX5_readLeaf_14 (by decide) (fun c => ?_) (fun c => ?_)
  · replace hF := iT c hF
    exact (k_X5_readLeaf_23 l D hT aT yT aT_1 yT_1 hT_15 aT_15 yT_15) C X (lv_sub hl [0, 1] rfl) hF
  · replace hF := iF c hF
    refine lv_iload_n hx hb dX5_readLeaf_17 rfl (lv_at hl 1 rfl) ?_
    refine lv_bipush (v := (27 : Int32)) hx hb dX5_readLeaf_18 (by decide) ?_
    refine lv_icmp_ne (tgt := 27) hx hb dX5_readLeaf_20 (by decide) (fun c => ?_) (fun c => ?_)
    · replace hF := iF c hF
      refine lv_iconst (v := (0 : Int32)) hx hb dX5_readLeaf_27 (by decide) ?_
      exact (k_X5_readLeaf_28 l D hT aT yT aT_1 yT_1 hT_15 aT_15 yT_15) C X (lv_sub hl [0, 1] rfl) hF
    · replace hF := iT c hF
      exact (k_X5_readLeaf_23 l D hT aT yT aT_1 yT_1 hT_15 aT_15 yT_15) C X (lv_sub hl [0, 1] rfl) hF

/-! ### X5_readPart -/
theorem dX5_readPart_0 : decode cX5_readPart 0 = .ok (.aload_n 0, 1) := by decide +kernel
theorem dX5_readPart_1 : decode cX5_readPart 1 = .ok (.getfield 77, 3) := by decide +kernel
theorem dX5_readPart_4 : decode cX5_readPart 4 = .ok (.getfield 100, 3) := by decide +kernel
theorem dX5_readPart_7 : decode cX5_readPart 7 = .ok (.istore_n 1, 1) := by decide +kernel
theorem dX5_readPart_8 : decode cX5_readPart 8 = .ok (.aload_n 0, 1) := by decide +kernel
theorem dX5_readPart_9 : decode cX5_readPart 9 = .ok (.iload_n 1, 1) := by decide +kernel
theorem dX5_readPart_10 : decode cX5_readPart 10 = .ok (.putfield 42, 3) := by decide +kernel
theorem dX5_readPart_13 : decode cX5_readPart 13 = .ok (.aload_n 0, 1) := by decide +kernel
theorem dX5_readPart_14 : decode cX5_readPart 14 = .ok (.aload_n 0, 1) := by decide +kernel
theorem dX5_readPart_15 : decode cX5_readPart 15 = .ok (.getfield 77, 3) := by decide +kernel
theorem dX5_readPart_18 : decode cX5_readPart 18 = .ok (.getfield 114, 3) := by decide +kernel
theorem dX5_readPart_21 : decode cX5_readPart 21 = .ok (.putfield 45, 3) := by decide +kernel
theorem dX5_readPart_24 : decode cX5_readPart 24 = .ok (.aload_n 0, 1) := by decide +kernel
theorem dX5_readPart_25 : decode cX5_readPart 25 = .ok (.aload_n 0, 1) := by decide +kernel
theorem dX5_readPart_26 : decode cX5_readPart 26 = .ok (.getfield 77, 3) := by decide +kernel
theorem dX5_readPart_29 : decode cX5_readPart 29 = .ok (.getfield 151, 3) := by decide +kernel
theorem dX5_readPart_32 : decode cX5_readPart 32 = .ok (.putfield 48, 3) := by decide +kernel
theorem dX5_readPart_35 : decode cX5_readPart 35 = .ok (.iload_n 1, 1) := by decide +kernel
theorem dX5_readPart_36 : decode cX5_readPart 36 = .ok (.tableswitch 313 2 54 #[234, 228, 313, 313, 313, 313, 313, 313, 313, 313, 313, 313, 313, 313, 244, 228, 228, 255, 255, 255, 255, 255, 255, 255, 228, 228, 313, 313, 313, 313, 313, 313, 313, 313, 313, 313, 313, 313, 313, 313, 313, 313, 313, 297, 313, 313, 313, 313, 265, 313, 313, 313, 265], 228) := by decide +kernel
theorem dX5_readPart_264 : decode cX5_readPart 264 = .ok (.aload_n 0, 1) := by decide +kernel
theorem dX5_readPart_265 : decode cX5_readPart 265 = .ok (.iload_n 1, 1) := by decide +kernel
theorem dX5_readPart_266 : decode cX5_readPart 266 = .ok (.invokevirtual 257, 3) := by decide +kernel
theorem dX5_readPart_269 : decode cX5_readPart 269 = .ok (.ireturn, 1) := by decide +kernel
theorem dX5_readPart_270 : decode cX5_readPart 270 = .ok (.aload_n 0, 1) := by decide +kernel
theorem dX5_readPart_271 : decode cX5_readPart 271 = .ok (.aload_n 0, 1) := by decide +kernel
theorem dX5_readPart_272 : decode cX5_readPart 272 = .ok (.getfield 45, 3) := by decide +kernel
theorem dX5_readPart_275 : decode cX5_readPart 275 = .ok (.invokevirtual 260, 3) := by decide +kernel
theorem dX5_readPart_278 : decode cX5_readPart 278 = .ok (.iconst 4, 1) := by decide +kernel
theorem dX5_readPart_279 : decode cX5_readPart 279 = .ok (.ireturn, 1) := by decide +kernel
theorem dX5_readPart_280 : decode cX5_readPart 280 = .ok (.aload_n 0, 1) := by decide +kernel
theorem dX5_readPart_281 : decode cX5_readPart 281 = .ok (.aload_n 0, 1) := by decide +kernel
theorem dX5_readPart_282 : decode cX5_readPart 282 = .ok (.getfield 45, 3) := by decide +kernel
theorem dX5_readPart_285 : decode cX5_readPart 285 = .ok (.invokevirtual 260, 3) := by decide +kernel
theorem dX5_readPart_288 : decode cX5_readPart 288 = .ok (.bipush 8, 2) := by decide +kernel
theorem dX5_readPart_290 : decode cX5_readPart 290 = .ok (.ireturn, 1) := by decide +kernel
theorem dX5_readPart_291 : decode cX5_readPart 291 = .ok (.aload_n 0, 1) := by decide +kernel
theorem dX5_readPart_292 : decode cX5_readPart 292 = .ok (.aload_n 0, 1) := by decide +kernel
theorem dX5_readPart_293 : decode cX5_readPart 293 = .ok (.getfield 45, 3) := by decide +kernel
theorem dX5_readPart_296 : decode cX5_readPart 296 = .ok (.invokevirtual 260, 3) := by decide +kernel
theorem dX5_readPart_299 : decode cX5_readPart 299 = .ok (.iconst 5, 1) := by decide +kernel
theorem dX5_readPart_300 : decode cX5_readPart 300 = .ok (.ireturn, 1) := by decide +kernel
theorem dX5_readPart_301 : decode cX5_readPart 301 = .ok (.aload_n 0, 1) := by decide +kernel
theorem dX5_readPart_302 : decode cX5_readPart 302 = .ok (.aload_n 0, 1) := by decide +kernel
theorem dX5_readPart_303 : decode cX5_readPart 303 = .ok (.getfield 45, 3) := by decide +kernel
theorem dX5_readPart_306 : decode cX5_readPart 306 = .ok (.invokevirtual 260, 3) := by decide +kernel
theorem dX5_readPart_309 : decode cX5_readPart 309 = .ok (.aload_n 0, 1) := by decide +kernel
theorem dX5_readPart_310 : decode cX5_readPart 310 = .ok (.iload_n 1, 1) := by decide +kernel
theorem dX5_readPart_311 : decode cX5_readPart 311 = .ok (.bipush 50, 2) := by decide +kernel
theorem dX5_readPart_313 : decode cX5_readPart 313 = .ok (.if_icmp .ne 8, 3) := by decide +kernel
theorem dX5_readPart_316 : decode cX5_readPart 316 = .ok (.bipush 65, 2) := by decide +kernel
theorem dX5_readPart_318 : decode cX5_readPart 318 = .ok (.goto 5, 3) := by decide +kernel
theorem dX5_readPart_321 : decode cX5_readPart 321 = .ok (.bipush 54, 2) := by decide +kernel
theorem dX5_readPart_323 : decode cX5_readPart 323 = .ok (.aload_n 0, 1) := by decide +kernel
theorem dX5_readPart_324 : decode cX5_readPart 324 = .ok (.getfield 45, 3) := by decide +kernel
theorem dX5_readPart_327 : decode cX5_readPart 327 = .ok (.iconst (-1), 1) := by decide +kernel
theorem dX5_readPart_328 : decode cX5_readPart 328 = .ok (.iconst 0, 1) := by decide +kernel
theorem dX5_readPart_329 : decode cX5_readPart 329 = .ok (.invokevirtual 263, 3) := by decide +kernel
theorem dX5_readPart_332 : decode cX5_readPart 332 = .ok (.ireturn, 1) := by decide +kernel
theorem dX5_readPart_333 : decode cX5_readPart 333 = .ok (.aload_n 0, 1) := by decide +kernel
theorem dX5_readPart_334 : decode cX5_readPart 334 = .ok (.getfield 35, 3) := by decide +kernel
theorem dX5_readPart_337 : decode cX5_readPart 337 = .ok (.bipush 40, 2) := by decide +kernel
theorem dX5_readPart_339 : decode cX5_readPart 339 = .ok (.if_icmp .lt 7, 3) := by decide +kernel
theorem dX5_readPart_342 : decode cX5_readPart 342 = .ok (.iconst 0, 1) := by decide +kernel
theorem dX5_readPart_343 : decode cX5_readPart 343 = .ok (.goto 5, 3) := by decide +kernel
theorem dX5_readPart_346 : decode cX5_readPart 346 = .ok (.bipush 6, 2) := by decide +kernel
theorem dX5_readPart_348 : decode cX5_readPart 348 = .ok (.ireturn, 1) := by decide +kernel
theorem dX5_readPart_349 : decode cX5_readPart 349 = .ok (.iconst 0, 1) := by decide +kernel
theorem dX5_readPart_350 : decode cX5_readPart 350 = .ok (.ireturn, 1) := by decide +kernel
abbrev R_X5_readPart : Room := ({ frames := 3, cells := 0, slots := 0, locals := 65 } : Room)
def b_X5_readPart_264 (hT_15 : Nat) (gT : Gs) (gT_1 : Gs) (gT_15 : Gs) (v1 : Int32) : Option (Int32 × Gs × Gs) :=
  bnd (f_X5_readLeaf hT_15 gT gT_1 gT_15 v1) (fun q_3 => some (q_3.1, q_3.2.1, q_3.2.2))
def b_X5_readPart_291 (hT_15 : Nat) (gT : Gs) (gT_1 : Gs) (gT_15 : Gs) : Option (Int32 × Gs × Gs) :=
  bnd (f_X5_countNode hT_15 gT gT_15 (gI gT 12)) (fun q_7 => some ((5 : Int32), q_7.1, q_7.2))
def b_X5_readPart_323 (hT_15 : Nat) (gT : Gs) (gT_1 : Gs) (gT_15 : Gs) (s0 : Int32) : Option (Int32 × Gs × Gs) :=
  bnd (f_X5_enter gT s0 (gI gT 12) (-1 : Int32) (0 : Int32)) (fun q_11 => some (q_11.1, q_11.2, gT_15))
def b_X5_readPart_301 (hT_15 : Nat) (gT : Gs) (gT_1 : Gs) (gT_15 : Gs) (v1 : Int32) : Option (Int32 × Gs × Gs) :=
  bnd (f_X5_countNode hT_15 gT gT_15 (gI gT 12)) (fun q_9 => if v1 = (50 : Int32) then (b_X5_readPart_323 hT_15 q_9.1 gT_1 q_9.2 (65 : Int32)) else (b_X5_readPart_323 hT_15 q_9.1 gT_1 q_9.2 (54 : Int32)))
def f_X5_readPart (hT_15 : Nat) (gT : Gs) (gT_1 : Gs) (gT_15 : Gs) : Option (Int32 × Gs × Gs) :=
  if (gI gT_1 4) = (2 : Int32) then (bnd (f_X5_countNode hT_15 (sI (sI (sI gT 11 (gI gT_1 4)) 12 (gI gT_1 5)) 13 (gI gT_1 6)) gT_15 (gI gT_1 5)) (fun q_1 => some ((4 : Int32), q_1.1, q_1.2))) else (if (gI gT_1 4) = (3 : Int32) then (b_X5_readPart_264 hT_15 (sI (sI (sI gT 11 (gI gT_1 4)) 12 (gI gT_1 5)) 13 (gI gT_1 6)) gT_1 gT_15 (gI gT_1 4)) else (if (gI gT_1 4) = (4 : Int32) then (some ((0 : Int32), (sI (sI (sI gT 11 (gI gT_1 4)) 12 (gI gT_1 5)) 13 (gI gT_1 6)), gT_15)) else (if (gI gT_1 4) = (5 : Int32) then (some ((0 : Int32), (sI (sI (sI gT 11 (gI gT_1 4)) 12 (gI gT_1 5)) 13 (gI gT_1 6)), gT_15)) else (if (gI gT_1 4) = (6 : Int32) then (some ((0 : Int32), (sI (sI (sI gT 11 (gI gT_1 4)) 12 (gI gT_1 5)) 13 (gI gT_1 6)), gT_15)) else (if (gI gT_1 4) = (7 : Int32) then (some ((0 : Int32), (sI (sI (sI gT 11 (gI gT_1 4)) 12 (gI gT_1 5)) 13 (gI gT_1 6)), gT_15)) else (if (gI gT_1 4) = (8 : Int32) then (some ((0 : Int32), (sI (sI (sI gT 11 (gI gT_1 4)) 12 (gI gT_1 5)) 13 (gI gT_1 6)), gT_15)) else (if (gI gT_1 4) = (9 : Int32) then (some ((0 : Int32), (sI (sI (sI gT 11 (gI gT_1 4)) 12 (gI gT_1 5)) 13 (gI gT_1 6)), gT_15)) else (if (gI gT_1 4) = (10 : Int32) then (some ((0 : Int32), (sI (sI (sI gT 11 (gI gT_1 4)) 12 (gI gT_1 5)) 13 (gI gT_1 6)), gT_15)) else (if (gI gT_1 4) = (11 : Int32) then (some ((0 : Int32), (sI (sI (sI gT 11 (gI gT_1 4)) 12 (gI gT_1 5)) 13 (gI gT_1 6)), gT_15)) else (if (gI gT_1 4) = (12 : Int32) then (some ((0 : Int32), (sI (sI (sI gT 11 (gI gT_1 4)) 12 (gI gT_1 5)) 13 (gI gT_1 6)), gT_15)) else (if (gI gT_1 4) = (13 : Int32) then (some ((0 : Int32), (sI (sI (sI gT 11 (gI gT_1 4)) 12 (gI gT_1 5)) 13 (gI gT_1 6)), gT_15)) else (if (gI gT_1 4) = (14 : Int32) then (some ((0 : Int32), (sI (sI (sI gT 11 (gI gT_1 4)) 12 (gI gT_1 5)) 13 (gI gT_1 6)), gT_15)) else (if (gI gT_1 4) = (15 : Int32) then (some ((0 : Int32), (sI (sI (sI gT 11 (gI gT_1 4)) 12 (gI gT_1 5)) 13 (gI gT_1 6)), gT_15)) else (if (gI gT_1 4) = (16 : Int32) then (bnd (f_X5_countNode hT_15 (sI (sI (sI gT 11 (gI gT_1 4)) 12 (gI gT_1 5)) 13 (gI gT_1 6)) gT_15 (gI gT_1 5)) (fun q_5 => some ((8 : Int32), q_5.1, q_5.2))) else (if (gI gT_1 4) = (17 : Int32) then (b_X5_readPart_264 hT_15 (sI (sI (sI gT 11 (gI gT_1 4)) 12 (gI gT_1 5)) 13 (gI gT_1 6)) gT_1 gT_15 (gI gT_1 4)) else (if (gI gT_1 4) = (18 : Int32) then (b_X5_readPart_264 hT_15 (sI (sI (sI gT 11 (gI gT_1 4)) 12 (gI gT_1 5)) 13 (gI gT_1 6)) gT_1 gT_15 (gI gT_1 4)) else (if (gI gT_1 4) = (19 : Int32) then (b_X5_readPart_291 hT_15 (sI (sI (sI gT 11 (gI gT_1 4)) 12 (gI gT_1 5)) 13 (gI gT_1 6)) gT_1 gT_15) else (if (gI gT_1 4) = (20 : Int32) then (b_X5_readPart_291 hT_15 (sI (sI (sI gT 11 (gI gT_1 4)) 12 (gI gT_1 5)) 13 (gI gT_1 6)) gT_1 gT_15) else (if (gI gT_1 4) = (21 : Int32) then (b_X5_readPart_291 hT_15 (sI (sI (sI gT 11 (gI gT_1 4)) 12 (gI gT_1 5)) 13 (gI gT_1 6)) gT_1 gT_15) else (if (gI gT_1 4) = (22 : Int32) then (b_X5_readPart_291 hT_15 (sI (sI (sI gT 11 (gI gT_1 4)) 12 (gI gT_1 5)) 13 (gI gT_1 6)) gT_1 gT_15) else (if (gI gT_1 4) = (23 : Int32) then (b_X5_readPart_291 hT_15 (sI (sI (sI gT 11 (gI gT_1 4)) 12 (gI gT_1 5)) 13 (gI gT_1 6)) gT_1 gT_15) else (if (gI gT_1 4) = (24 : Int32) then (b_X5_readPart_291 hT_15 (sI (sI (sI gT 11 (gI gT_1 4)) 12 (gI gT_1 5)) 13 (gI gT_1 6)) gT_1 gT_15) else (if (gI gT_1 4) = (25 : Int32) then (b_X5_readPart_291 hT_15 (sI (sI (sI gT 11 (gI gT_1 4)) 12 (gI gT_1 5)) 13 (gI gT_1 6)) gT_1 gT_15) else (if (gI gT_1 4) = (26 : Int32) then (b_X5_readPart_264 hT_15 (sI (sI (sI gT 11 (gI gT_1 4)) 12 (gI gT_1 5)) 13 (gI gT_1 6)) gT_1 gT_15 (gI gT_1 4)) else (if (gI gT_1 4) = (27 : Int32) then (b_X5_readPart_264 hT_15 (sI (sI (sI gT 11 (gI gT_1 4)) 12 (gI gT_1 5)) 13 (gI gT_1 6)) gT_1 gT_15 (gI gT_1 4)) else (if (gI gT_1 4) = (28 : Int32) then (some ((0 : Int32), (sI (sI (sI gT 11 (gI gT_1 4)) 12 (gI gT_1 5)) 13 (gI gT_1 6)), gT_15)) else (if (gI gT_1 4) = (29 : Int32) then (some ((0 : Int32), (sI (sI (sI gT 11 (gI gT_1 4)) 12 (gI gT_1 5)) 13 (gI gT_1 6)), gT_15)) else (if (gI gT_1 4) = (30 : Int32) then (some ((0 : Int32), (sI (sI (sI gT 11 (gI gT_1 4)) 12 (gI gT_1 5)) 13 (gI gT_1 6)), gT_15)) else (if (gI gT_1 4) = (31 : Int32) then (some ((0 : Int32), (sI (sI (sI gT 11 (gI gT_1 4)) 12 (gI gT_1 5)) 13 (gI gT_1 6)), gT_15)) else (if (gI gT_1 4) = (32 : Int32) then (some ((0 : Int32), (sI (sI (sI gT 11 (gI gT_1 4)) 12 (gI gT_1 5)) 13 (gI gT_1 6)), gT_15)) else (if (gI gT_1 4) = (33 : Int32) then (some ((0 : Int32), (sI (sI (sI gT 11 (gI gT_1 4)) 12 (gI gT_1 5)) 13 (gI gT_1 6)), gT_15)) else (if (gI gT_1 4) = (34 : Int32) then (some ((0 : Int32), (sI (sI (sI gT 11 (gI gT_1 4)) 12 (gI gT_1 5)) 13 (gI gT_1 6)), gT_15)) else (if (gI gT_1 4) = (35 : Int32) then (some ((0 : Int32), (sI (sI (sI gT 11 (gI gT_1 4)) 12 (gI gT_1 5)) 13 (gI gT_1 6)), gT_15)) else (if (gI gT_1 4) = (36 : Int32) then (some ((0 : Int32), (sI (sI (sI gT 11 (gI gT_1 4)) 12 (gI gT_1 5)) 13 (gI gT_1 6)), gT_15)) else (if (gI gT_1 4) = (37 : Int32) then (some ((0 : Int32), (sI (sI (sI gT 11 (gI gT_1 4)) 12 (gI gT_1 5)) 13 (gI gT_1 6)), gT_15)) else (if (gI gT_1 4) = (38 : Int32) then (some ((0 : Int32), (sI (sI (sI gT 11 (gI gT_1 4)) 12 (gI gT_1 5)) 13 (gI gT_1 6)), gT_15)) else (if (gI gT_1 4) = (39 : Int32) then (some ((0 : Int32), (sI (sI (sI gT 11 (gI gT_1 4)) 12 (gI gT_1 5)) 13 (gI gT_1 6)), gT_15)) else (if (gI gT_1 4) = (40 : Int32) then (some ((0 : Int32), (sI (sI (sI gT 11 (gI gT_1 4)) 12 (gI gT_1 5)) 13 (gI gT_1 6)), gT_15)) else (if (gI gT_1 4) = (41 : Int32) then (some ((0 : Int32), (sI (sI (sI gT 11 (gI gT_1 4)) 12 (gI gT_1 5)) 13 (gI gT_1 6)), gT_15)) else (if (gI gT_1 4) = (42 : Int32) then (some ((0 : Int32), (sI (sI (sI gT 11 (gI gT_1 4)) 12 (gI gT_1 5)) 13 (gI gT_1 6)), gT_15)) else (if (gI gT_1 4) = (43 : Int32) then (some ((0 : Int32), (sI (sI (sI gT 11 (gI gT_1 4)) 12 (gI gT_1 5)) 13 (gI gT_1 6)), gT_15)) else (if (gI gT_1 4) = (44 : Int32) then (some ((0 : Int32), (sI (sI (sI gT 11 (gI gT_1 4)) 12 (gI gT_1 5)) 13 (gI gT_1 6)), gT_15)) else (if (gI gT_1 4) = (45 : Int32) then (if (gI gT 9) < (40 : Int32) then (some ((6 : Int32), (sI (sI (sI gT 11 (gI gT_1 4)) 12 (gI gT_1 5)) 13 (gI gT_1 6)), gT_15)) else (some ((0 : Int32), (sI (sI (sI gT 11 (gI gT_1 4)) 12 (gI gT_1 5)) 13 (gI gT_1 6)), gT_15))) else (if (gI gT_1 4) = (46 : Int32) then (some ((0 : Int32), (sI (sI (sI gT 11 (gI gT_1 4)) 12 (gI gT_1 5)) 13 (gI gT_1 6)), gT_15)) else (if (gI gT_1 4) = (47 : Int32) then (some ((0 : Int32), (sI (sI (sI gT 11 (gI gT_1 4)) 12 (gI gT_1 5)) 13 (gI gT_1 6)), gT_15)) else (if (gI gT_1 4) = (48 : Int32) then (some ((0 : Int32), (sI (sI (sI gT 11 (gI gT_1 4)) 12 (gI gT_1 5)) 13 (gI gT_1 6)), gT_15)) else (if (gI gT_1 4) = (49 : Int32) then (some ((0 : Int32), (sI (sI (sI gT 11 (gI gT_1 4)) 12 (gI gT_1 5)) 13 (gI gT_1 6)), gT_15)) else (if (gI gT_1 4) = (50 : Int32) then (b_X5_readPart_301 hT_15 (sI (sI (sI gT 11 (gI gT_1 4)) 12 (gI gT_1 5)) 13 (gI gT_1 6)) gT_1 gT_15 (gI gT_1 4)) else (if (gI gT_1 4) = (51 : Int32) then (some ((0 : Int32), (sI (sI (sI gT 11 (gI gT_1 4)) 12 (gI gT_1 5)) 13 (gI gT_1 6)), gT_15)) else (if (gI gT_1 4) = (52 : Int32) then (some ((0 : Int32), (sI (sI (sI gT 11 (gI gT_1 4)) 12 (gI gT_1 5)) 13 (gI gT_1 6)), gT_15)) else (if (gI gT_1 4) = (53 : Int32) then (some ((0 : Int32), (sI (sI (sI gT 11 (gI gT_1 4)) 12 (gI gT_1 5)) 13 (gI gT_1 6)), gT_15)) else (if (gI gT_1 4) = (54 : Int32) then (b_X5_readPart_301 hT_15 (sI (sI (sI gT 11 (gI gT_1 4)) 12 (gI gT_1 5)) 13 (gI gT_1 6)) gT_1 gT_15 (gI gT_1 4)) else (some ((0 : Int32), (sI (sI (sI gT 11 (gI gT_1 4)) 12 (gI gT_1 5)) 13 (gI gT_1 6)), gT_15))))))))))))))))))))))))))))))))))))))))))))))))))))))
def S_X5_readPart_264 (l : Launch) (D : Dx) (hT : Nat) (aT : Nat → Nat) (yT : Nat → ClassId) (aT_1 : Nat → Nat) (yT_1 : Nat → ClassId) (hT_15 : Nat) (aT_15 : Nat → Nat) (yT_15 : Nat → ClassId) (fn : Gs → Gs → Gs → Int32 → Option (Int32 × Gs × Gs)) : Prop :=
  ∀ {p : Program} {e : Env} {s : State} {m : MethodId} {args : Array Value} {below : List Frame} {meth : Method} {c : Code} {H : Heap} {locs : List Loc} {A : Nat → Prop} {ls : Array Slot} {gT : Gs} {gT_1 : Gs} {gT_15 : Gs} {v1 : Int32} {q : Int32 × Gs × Gs}, Cx p s m args meth c cX5_readPart (some .int) 2 RX5 lw_all → Hx D (tX5 yT ++ (tX7 yT_1 ++ (tX0 yT_15))) A s H locs (wX5 hT aT yT gT ++ (wX7 (aT 1) aT_1 yT_1 gT_1 ++ (wX0 hT_15 aT_15 yT_15 gT_15))) → lv_has ls 2 [(0, .ref hT), (1, .int v1)] → fn gT gT_1 gT_15 v1 = some q → W p l e R_X5_readPart s m args below meth c H locs 0 0 (MQ below (QI D A (wX5 hT aT yT q.2.1 ++ (wX7 (aT 1) aT_1 yT_1 gT_1 ++ (wX0 hT_15 aT_15 yT_15 q.2.2))) q.1) args s 0 0 A) (F0 m 264 ls [])
def S_X5_readPart_291 (l : Launch) (D : Dx) (hT : Nat) (aT : Nat → Nat) (yT : Nat → ClassId) (aT_1 : Nat → Nat) (yT_1 : Nat → ClassId) (hT_15 : Nat) (aT_15 : Nat → Nat) (yT_15 : Nat → ClassId) (fn : Gs → Gs → Gs → Option (Int32 × Gs × Gs)) : Prop :=
  ∀ {p : Program} {e : Env} {s : State} {m : MethodId} {args : Array Value} {below : List Frame} {meth : Method} {c : Code} {H : Heap} {locs : List Loc} {A : Nat → Prop} {ls : Array Slot} {gT : Gs} {gT_1 : Gs} {gT_15 : Gs} {q : Int32 × Gs × Gs}, Cx p s m args meth c cX5_readPart (some .int) 2 RX5 lw_all → Hx D (tX5 yT ++ (tX7 yT_1 ++ (tX0 yT_15))) A s H locs (wX5 hT aT yT gT ++ (wX7 (aT 1) aT_1 yT_1 gT_1 ++ (wX0 hT_15 aT_15 yT_15 gT_15))) → lv_has ls 2 [(0, .ref hT)] → fn gT gT_1 gT_15 = some q → W p l e R_X5_readPart s m args below meth c H locs 0 0 (MQ below (QI D A (wX5 hT aT yT q.2.1 ++ (wX7 (aT 1) aT_1 yT_1 gT_1 ++ (wX0 hT_15 aT_15 yT_15 q.2.2))) q.1) args s 0 0 A) (F0 m 291 ls [])
def S_X5_readPart_323 (l : Launch) (D : Dx) (hT : Nat) (aT : Nat → Nat) (yT : Nat → ClassId) (aT_1 : Nat → Nat) (yT_1 : Nat → ClassId) (hT_15 : Nat) (aT_15 : Nat → Nat) (yT_15 : Nat → ClassId) (fn : Gs → Gs → Gs → Int32 → Option (Int32 × Gs × Gs)) : Prop :=
  ∀ {p : Program} {e : Env} {s : State} {m : MethodId} {args : Array Value} {below : List Frame} {meth : Method} {c : Code} {H : Heap} {locs : List Loc} {A : Nat → Prop} {ls : Array Slot} {gT : Gs} {gT_1 : Gs} {gT_15 : Gs} {s0 : Int32} {q : Int32 × Gs × Gs}, Cx p s m args meth c cX5_readPart (some .int) 2 RX5 lw_all → Hx D (tX5 yT ++ (tX7 yT_1 ++ (tX0 yT_15))) A s H locs (wX5 hT aT yT gT ++ (wX7 (aT 1) aT_1 yT_1 gT_1 ++ (wX0 hT_15 aT_15 yT_15 gT_15))) → lv_has ls 2 [(0, .ref hT)] → fn gT gT_1 gT_15 s0 = some q → W p l e R_X5_readPart s m args below meth c H locs 0 0 (MQ below (QI D A (wX5 hT aT yT q.2.1 ++ (wX7 (aT 1) aT_1 yT_1 gT_1 ++ (wX0 hT_15 aT_15 yT_15 q.2.2))) q.1) args s 0 0 A) (F0 m 323 ls [.int s0, .ref hT])
def S_X5_readPart_301 (l : Launch) (D : Dx) (hT : Nat) (aT : Nat → Nat) (yT : Nat → ClassId) (aT_1 : Nat → Nat) (yT_1 : Nat → ClassId) (hT_15 : Nat) (aT_15 : Nat → Nat) (yT_15 : Nat → ClassId) (fn : Gs → Gs → Gs → Int32 → Option (Int32 × Gs × Gs)) : Prop :=
  ∀ {p : Program} {e : Env} {s : State} {m : MethodId} {args : Array Value} {below : List Frame} {meth : Method} {c : Code} {H : Heap} {locs : List Loc} {A : Nat → Prop} {ls : Array Slot} {gT : Gs} {gT_1 : Gs} {gT_15 : Gs} {v1 : Int32} {q : Int32 × Gs × Gs}, Cx p s m args meth c cX5_readPart (some .int) 2 RX5 lw_all → Hx D (tX5 yT ++ (tX7 yT_1 ++ (tX0 yT_15))) A s H locs (wX5 hT aT yT gT ++ (wX7 (aT 1) aT_1 yT_1 gT_1 ++ (wX0 hT_15 aT_15 yT_15 gT_15))) → lv_has ls 2 [(0, .ref hT), (1, .int v1)] → fn gT gT_1 gT_15 v1 = some q → W p l e R_X5_readPart s m args below meth c H locs 0 0 (MQ below (QI D A (wX5 hT aT yT q.2.1 ++ (wX7 (aT 1) aT_1 yT_1 gT_1 ++ (wX0 hT_15 aT_15 yT_15 q.2.2))) q.1) args s 0 0 A) (F0 m 301 ls [])
set_option maxHeartbeats 4000000 in
set_option maxRecDepth 100000 in
theorem k_X5_readPart_264 (l : Launch) (D : Dx) (hT : Nat) (aT : Nat → Nat) (yT : Nat → ClassId) (aT_1 : Nat → Nat) (yT_1 : Nat → ClassId) (hT_15 : Nat) (aT_15 : Nat → Nat) (yT_15 : Nat → ClassId) : S_X5_readPart_264 l D hT aT yT aT_1 yT_1 hT_15 aT_15 yT_15 (b_X5_readPart_264 hT_15) := by
  intro p e s m args below meth c H locs A ls gT gT_1 gT_15 v1 q C X hl hF
  obtain ⟨hx, hb, hr, hml, hown, hts, hlk⟩ := id C
  unfold b_X5_readPart_264 at hF
  refine lv_aload_n hx hb dX5_readPart_264 rfl (lv_at hl 0 rfl) ?_
  refine lv_iload_n hx hb dX5_readPart_265 rfl (lv_at hl 1 rfl) ?_
  obtain ⟨q_3, hc_4, hF⟩ := bnd_some hF
  refine cV_i (As := [.int v1]) (rest := []) C X (c_X5_readLeaf l D hT aT yT aT_1 yT_1 hT_15 aT_15 yT_15 gT gT_1 gT_15 v1 q_3 hc_4 _) (cwV 1 hts (good_V q4_156 q4_158 q0_31 q1_10 q4_159) rfl rfl rfl (by decide +kernel) ⟨Nat.le_of_ble_eq_true rfl, Nat.le_of_ble_eq_true rfl⟩) (va_recv X.1 X.2.1 (ci := 5) (q0 := 0) rfl rfl) X.1 X.2.1 X.2.2.1 (free_all X) hl.1 rfl rfl (Nat.le_of_ble_eq_true rfl) dX5_readPart_266 ⟨Nat.le_of_ble_eq_true rfl, Nat.le_of_ble_eq_true rfl⟩ (fun t H1 locs1 ht hB hk hS => ?_)
  have X : Hx D (tX5 yT ++ (tX7 yT_1 ++ (tX0 yT_15))) A s H1 locs1 (wX5 hT aT yT q_3.2.1 ++ (wX7 (aT 1) aT_1 yT_1 gT_1 ++ (wX0 hT_15 aT_15 yT_15 q_3.2.2))) := Hx_after_all X ht hB hS
  clear hk hS ht hB
  generalize H1 = H at X ⊢
  generalize locs1 = locs at X ⊢
  have hq := Option.some.inj hF
  subst hq
  exact rt_i C X dX5_readPart_269
set_option maxHeartbeats 4000000 in
set_option maxRecDepth 100000 in
theorem k_X5_readPart_291 (l : Launch) (D : Dx) (hT : Nat) (aT : Nat → Nat) (yT : Nat → ClassId) (aT_1 : Nat → Nat) (yT_1 : Nat → ClassId) (hT_15 : Nat) (aT_15 : Nat → Nat) (yT_15 : Nat → ClassId) : S_X5_readPart_291 l D hT aT yT aT_1 yT_1 hT_15 aT_15 yT_15 (b_X5_readPart_291 hT_15) := by
  intro p e s m args below meth c H locs A ls gT gT_1 gT_15 q C X hl hF
  obtain ⟨hx, hb, hr, hml, hown, hts, hlk⟩ := id C
  unfold b_X5_readPart_291 at hF
  refine lv_aload_n hx hb dX5_readPart_291 rfl (lv_at hl 0 rfl) ?_
  refine lv_aload_n hx hb dX5_readPart_292 rfl (lv_at hl 0 rfl) ?_
  refine va_get (D := D.1) (ci := 5) (v := .int (gI gT 12)) (C := RX5) (T := TX5) (N := 18) hx hb hts wi_X5 hown X.1 X.2.1 0 rfl rfl 12 (by decide) (hts _ q3_63) (fun _ h9 => h9) (fl_get (by decide)) dX5_readPart_293 ?_
  obtain ⟨q_7, hc_8, hF⟩ := bnd_some hF
  refine cV_v (As := [.int (gI gT 12)]) (rest := []) C X (c_X5_countNode l D hT aT yT hT_15 aT_15 yT_15 gT gT_15 (gI gT 12) q_7 hc_8 _) (cwV 1 hts (good_V q4_113 q4_115 q0_21 q1_10 q4_116) rfl rfl rfl (by decide +kernel) ⟨Nat.le_of_ble_eq_true rfl, Nat.le_of_ble_eq_true rfl⟩) (va_recv X.1 X.2.1 (ci := 5) (q0 := 0) rfl rfl) (X.1.sub (tys' := tX5 yT ++ (tX0 yT_15)) [0, 1, 2, 3, 4, 5, 6, 7, 8, 9, 10, 11, 12, 13, 14, 15, 16, 17, 18] rfl) (X.2.1.sub (ws' := wX5 hT aT yT gT ++ (wX0 hT_15 aT_15 yT_15 gT_15)) [0, 1, 2, 3, 4, 6, 7, 8, 9, 10, 11, 12, 13, 14, 15, 16, 17, 18, 19, 20, 21] rfl) (X.2.2.1.sub (ws' := wX5 hT aT yT gT ++ (wX0 hT_15 aT_15 yT_15 gT_15)) [0, 1, 2, 3, 4, 6, 7, 8, 9, 10, 11, 12, 13, 14, 15, 16, 17, 18, 19, 20, 21] (by decide) rfl) (free_of (wC := wX5 hT aT yT gT ++ (wX0 hT_15 aT_15 yT_15 gT_15)) (isC := [0, 1, 2, 3, 4, 6, 7, 8, 9, 10, 11, 12, 13, 14, 15, 16, 17, 18, 19, 20, 21]) X rfl) hl.1 rfl rfl (Nat.le_of_ble_eq_true rfl) dX5_readPart_296 ⟨Nat.le_of_ble_eq_true rfl, Nat.le_of_ble_eq_true rfl⟩ (fun t H1 locs1 ht hB hk hS => ?_)
  have X : Hx D (tX5 yT ++ (tX7 yT_1 ++ (tX0 yT_15))) A s H1 locs1 (wX5 hT aT yT q_7.1 ++ (wX7 (aT 1) aT_1 yT_1 gT_1 ++ (wX0 hT_15 aT_15 yT_15 q_7.2))) := Hx_after (isC := [0, 1, 2, 3, 4, 6, 7, 8, 9, 10, 11, 12, 13, 14, 15, 16, 17, 18, 19, 20, 21]) (isR := [5]) (pm := [1, 2, 3, 4, 5, 0, 6, 7, 8, 9, 10, 11, 12, 13, 14, 15, 16, 17, 18, 19, 20, 21]) (wr := wX7 (aT 1) aT_1 yT_1 gT_1) X ⟨rfl, rfl, by decide, by decide, rfl, by decide⟩ ht hB hk hS
  clear hk hS ht hB
  generalize H1 = H at X ⊢
  generalize locs1 = locs at X ⊢
  refine lv_iconst (v := (5 : Int32)) hx hb dX5_readPart_299 (by decide) ?_
  have hq := Option.some.inj hF
  subst hq
  exact rt_i C X dX5_readPart_300
set_option maxHeartbeats 4000000 in
set_option maxRecDepth 100000 in
theorem k_X5_readPart_323 (l : Launch) (D : Dx) (hT : Nat) (aT : Nat → Nat) (yT : Nat → ClassId) (aT_1 : Nat → Nat) (yT_1 : Nat → ClassId) (hT_15 : Nat) (aT_15 : Nat → Nat) (yT_15 : Nat → ClassId) : S_X5_readPart_323 l D hT aT yT aT_1 yT_1 hT_15 aT_15 yT_15 (b_X5_readPart_323 hT_15) := by
  intro p e s m args below meth c H locs A ls gT gT_1 gT_15 s0 q C X hl hF
  obtain ⟨hx, hb, hr, hml, hown, hts, hlk⟩ := id C
  unfold b_X5_readPart_323 at hF
  refine lv_aload_n hx hb dX5_readPart_323 rfl (lv_at hl 0 rfl) ?_
  refine va_get (D := D.1) (ci := 5) (v := .int (gI gT 12)) (C := RX5) (T := TX5) (N := 18) hx hb hts wi_X5 hown X.1 X.2.1 0 rfl rfl 12 (by decide) (hts _ q3_63) (fun _ h9 => h9) (fl_get (by decide)) dX5_readPart_324 ?_
  refine lv_iconst (v := (-1 : Int32)) hx hb dX5_readPart_327 (by decide) ?_
  refine lv_iconst (v := (0 : Int32)) hx hb dX5_readPart_328 (by decide) ?_
  obtain ⟨q_11, hc_12, hF⟩ := bnd_some hF
  refine cV_i (As := [.int s0, .int (gI gT 12), .int (-1 : Int32), .int (0 : Int32)]) (rest := []) C X (c_X5_enter l D hT aT yT gT s0 (gI gT 12) (-1 : Int32) (0 : Int32) q_11 hc_12 _) (cwV 4 hts (good_V q4_125 q4_127 q0_24 q1_10 q4_128) rfl rfl rfl (by decide +kernel) ⟨Nat.le_of_ble_eq_true rfl, Nat.le_of_ble_eq_true rfl⟩) (va_recv X.1 X.2.1 (ci := 5) (q0 := 0) rfl rfl) (X.1.sub (tys' := tX5 yT) [0, 1, 2, 3] rfl) (X.2.1.sub (ws' := wX5 hT aT yT gT) [0, 1, 2, 3, 4] rfl) (X.2.2.1.sub (ws' := wX5 hT aT yT gT) [0, 1, 2, 3, 4] (by decide) rfl) (free_of (wC := wX5 hT aT yT gT) (isC := [0, 1, 2, 3, 4]) X rfl) hl.1 rfl rfl (Nat.le_of_ble_eq_true rfl) dX5_readPart_329 ⟨Nat.le_of_ble_eq_true rfl, Nat.le_of_ble_eq_true rfl⟩ (fun t H1 locs1 ht hB hk hS => ?_)
  have X : Hx D (tX5 yT ++ (tX7 yT_1 ++ (tX0 yT_15))) A s H1 locs1 (wX5 hT aT yT q_11.2 ++ (wX7 (aT 1) aT_1 yT_1 gT_1 ++ (wX0 hT_15 aT_15 yT_15 gT_15))) := Hx_after (isC := [0, 1, 2, 3, 4]) (isR := [5, 6, 7, 8, 9, 10, 11, 12, 13, 14, 15, 16, 17, 18, 19, 20, 21]) (pm := [17, 18, 19, 20, 21, 0, 1, 2, 3, 4, 5, 6, 7, 8, 9, 10, 11, 12, 13, 14, 15, 16]) (wr := wX7 (aT 1) aT_1 yT_1 gT_1 ++ (wX0 hT_15 aT_15 yT_15 gT_15)) X ⟨rfl, rfl, by decide, by decide, rfl, by decide⟩ ht hB hk hS
  clear hk hS ht hB
  generalize H1 = H at X ⊢
  generalize locs1 = locs at X ⊢
  have hq := Option.some.inj hF
  subst hq
  exact rt_i C X dX5_readPart_332
set_option maxHeartbeats 4000000 in
set_option maxRecDepth 100000 in
theorem k_X5_readPart_301 (l : Launch) (D : Dx) (hT : Nat) (aT : Nat → Nat) (yT : Nat → ClassId) (aT_1 : Nat → Nat) (yT_1 : Nat → ClassId) (hT_15 : Nat) (aT_15 : Nat → Nat) (yT_15 : Nat → ClassId) : S_X5_readPart_301 l D hT aT yT aT_1 yT_1 hT_15 aT_15 yT_15 (b_X5_readPart_301 hT_15) := by
  intro p e s m args below meth c H locs A ls gT gT_1 gT_15 v1 q C X hl hF
  obtain ⟨hx, hb, hr, hml, hown, hts, hlk⟩ := id C
  unfold b_X5_readPart_301 at hF
  refine lv_aload_n hx hb dX5_readPart_301 rfl (lv_at hl 0 rfl) ?_
  refine lv_aload_n hx hb dX5_readPart_302 rfl (lv_at hl 0 rfl) ?_
  refine va_get (D := D.1) (ci := 5) (v := .int (gI gT 12)) (C := RX5) (T := TX5) (N := 18) hx hb hts wi_X5 hown X.1 X.2.1 0 rfl rfl 12 (by decide) (hts _ q3_63) (fun _ h9 => h9) (fl_get (by decide)) dX5_readPart_303 ?_
  obtain ⟨q_9, hc_10, hF⟩ := bnd_some hF
  refine cV_v (As := [.int (gI gT 12)]) (rest := []) C X (c_X5_countNode l D hT aT yT hT_15 aT_15 yT_15 gT gT_15 (gI gT 12) q_9 hc_10 _) (cwV 1 hts (good_V q4_113 q4_115 q0_21 q1_10 q4_116) rfl rfl rfl (by decide +kernel) ⟨Nat.le_of_ble_eq_true rfl, Nat.le_of_ble_eq_true rfl⟩) (va_recv X.1 X.2.1 (ci := 5) (q0 := 0) rfl rfl) (X.1.sub (tys' := tX5 yT ++ (tX0 yT_15)) [0, 1, 2, 3, 4, 5, 6, 7, 8, 9, 10, 11, 12, 13, 14, 15, 16, 17, 18] rfl) (X.2.1.sub (ws' := wX5 hT aT yT gT ++ (wX0 hT_15 aT_15 yT_15 gT_15)) [0, 1, 2, 3, 4, 6, 7, 8, 9, 10, 11, 12, 13, 14, 15, 16, 17, 18, 19, 20, 21] rfl) (X.2.2.1.sub (ws' := wX5 hT aT yT gT ++ (wX0 hT_15 aT_15 yT_15 gT_15)) [0, 1, 2, 3, 4, 6, 7, 8, 9, 10, 11, 12, 13, 14, 15, 16, 17, 18, 19, 20, 21] (by decide) rfl) (free_of (wC := wX5 hT aT yT gT ++ (wX0 hT_15 aT_15 yT_15 gT_15)) (isC := [0, 1, 2, 3, 4, 6, 7, 8, 9, 10, 11, 12, 13, 14, 15, 16, 17, 18, 19, 20, 21]) X rfl) hl.1 rfl rfl (Nat.le_of_ble_eq_true rfl) dX5_readPart_306 ⟨Nat.le_of_ble_eq_true rfl, Nat.le_of_ble_eq_true rfl⟩ (fun t H1 locs1 ht hB hk hS => ?_)
  have X : Hx D (tX5 yT ++ (tX7 yT_1 ++ (tX0 yT_15))) A s H1 locs1 (wX5 hT aT yT q_9.1 ++ (wX7 (aT 1) aT_1 yT_1 gT_1 ++ (wX0 hT_15 aT_15 yT_15 q_9.2))) := Hx_after (isC := [0, 1, 2, 3, 4, 6, 7, 8, 9, 10, 11, 12, 13, 14, 15, 16, 17, 18, 19, 20, 21]) (isR := [5]) (pm := [1, 2, 3, 4, 5, 0, 6, 7, 8, 9, 10, 11, 12, 13, 14, 15, 16, 17, 18, 19, 20, 21]) (wr := wX7 (aT 1) aT_1 yT_1 gT_1) X ⟨rfl, rfl, by decide, by decide, rfl, by decide⟩ ht hB hk hS
  clear hk hS ht hB
  generalize H1 = H at X ⊢
  generalize locs1 = locs at X ⊢
  refine lv_aload_n hx hb dX5_readPart_309 rfl (lv_at hl 0 rfl) ?_
  refine lv_iload_n hx hb dX5_readPart_310 rfl (lv_at hl 1 rfl) ?_
  refine lv_bipush (v := (50 : Int32)) hx hb dX5_readPart_311 (by decide) ?_
  refine lv_icmp_ne (tgt := 321) hx hb dX5_readPart_313 (by decide) (fun c => ?_) (fun c => ?_)
  · replace hF := iF c hF
    refine lv_bipush (v := (54 : Int32)) hx hb dX5_readPart_321 (by decide) ?_
    exact (k_X5_readPart_323 l D hT aT yT aT_1 yT_1 hT_15 aT_15 yT_15) C X (lv_sub hl [0] rfl) hF
  · replace hF := iT c hF
    refine lv_bipush (v := (65 : Int32)) hx hb dX5_readPart_316 (by decide) ?_
    refine lv_goto (tgt := 323) hx hb dX5_readPart_318 (by decide) ?_
    exact (k_X5_readPart_323 l D hT aT yT aT_1 yT_1 hT_15 aT_15 yT_15) C X (lv_sub hl [0] rfl) hF
set_option maxHeartbeats 4000000 in
set_option maxRecDepth 100000 in
theorem c_X5_readPart (l : Launch) (D : Dx) (hT : Nat) (aT : Nat → Nat) (yT : Nat → ClassId) (aT_1 : Nat → Nat) (yT_1 : Nat → ClassId) (hT_15 : Nat) (aT_15 : Nat → Nat) (yT_15 : Nat → ClassId) (gT : Gs) (gT_1 : Gs) (gT_15 : Gs) (q : Int32 × Gs × Gs) (hF : f_X5_readPart hT_15 gT gT_1 gT_15 = some q) (sz : Nat) : Met l yX5_readPart (ws_ yX5_readPart cX5_readPart 2 (some .int)) R_X5_readPart (PC D (tX5 yT ++ (tX7 yT_1 ++ (tX0 yT_15))) [.ref hT] (wX5 hT aT yT gT ++ (wX7 (aT 1) aT_1 yT_1 gT_1 ++ (wX0 hT_15 aT_15 yT_15 gT_15))) sz) (QI D (va_A (wX5 hT aT yT gT ++ (wX7 (aT 1) aT_1 yT_1 gT_1 ++ (wX0 hT_15 aT_15 yT_15 gT_15))) sz) (wX5 hT aT yT q.2.1 ++ (wX7 (aT 1) aT_1 yT_1 gT_1 ++ (wX0 hT_15 aT_15 yT_15 q.2.2))) q.1) 0 0 (va_A (wX5 hT aT yT gT ++ (wX7 (aT 1) aT_1 yT_1 gT_1 ++ (wX0 hT_15 aT_15 yT_15 gT_15))) sz) := by
  refine Met.ofW (cc := cX5_readPart) (maxL := 2) (ret := (some .int)) (by decide) rfl ?_
  intro p e s m args below meth c s₁ B hml hv
  obtain ⟨rfl, hsz, hP, hK, hD, hN⟩ := hv
  subst hsz
  have C : Cx p s m _ meth c cX5_readPart (some .int) 2 RX5 lw_all := Cx_of B hml
  have X := Hx_start hP hK hD hN
  obtain ⟨hx, hb, hr, -, hown, hts, hlk⟩ := id C
  generalize va_A (wX5 hT aT yT gT ++ (wX7 (aT 1) aT_1 yT_1 gT_1 ++ (wX0 hT_15 aT_15 yT_15 gT_15))) s.heap.size = A at X ⊢
  have hl := lv_entry ([.ref hT]) (n := 2) (Nat.le_of_ble_eq_true rfl)
  rw [lg_entry_eq]
  generalize (lg_sl ([.ref hT]) ++ List.replicate (2 - (lg_sl ([.ref hT])).length) Slot.unset).toArray = ls at hl ⊢
  have hl : lv_has ls 2 [(0, .ref hT)] := hl
  unfold f_X5_readPart at hF
  refine lv_aload_n hx hb dX5_readPart_0 rfl (lv_at hl 0 rfl) ?_
  refine va_get (D := D.1) (ci := 5) (v := .ref (aT 1)) (C := RX5) (T := TX5) (N := 18) hx hb hts wi_X5 hown X.1 X.2.1 0 rfl rfl 1 (by decide) (hts _ q3_52) (fun _ h9 => h9) (fl_get (by decide)) dX5_readPart_1 ?_
  refine va_getN (D := D.1) (ci := 7) (v := .int (gI gT_1 4)) (C := RX7) (T := TX7) (N := 12) hx hb hts wi_X7 hown X.1 X.2.1 5 rfl rfl 4 (by decide) (X.2.2.2.2.2.1.use q3_0 rfl) (fun _ h9 => h9) (fl_get (by decide)) dX5_readPart_4 ?_
  refine lv_istore_n (lv' := [(1, .int (gI gT_1 4)), (0, .ref hT)]) hx hb dX5_readPart_7 rfl hl (by decide) rfl (fun ls hl => ?_)
  refine lv_aload_n hx hb dX5_readPart_8 rfl (lv_at hl 1 rfl) ?_
  refine lv_iload_n hx hb dX5_readPart_9 rfl (lv_at hl 0 rfl) ?_
  refine va_put (D := D.1) (ci := 5) (v := .int (gI gT_1 4)) (ty := .int) (C := RX5) (T := TX5) (N := 18) hx hb hts wi_X5 tyX5 tyX5_ok nmX5 hown X.1 X.2.1 X.2.2.1 X.2.2.2.1 0 rfl rfl 11 (by decide) (hts _ q3_62) (fun _ h9 => h9) rfl (by decide +kernel) rfl rfl (by rw [List.length_map, List.length_range]; decide) dX5_readPart_10 (fun H locs hP hD hS => ?_)
  have X : Hx D (tX5 yT ++ (tX7 yT_1 ++ (tX0 yT_15))) A s H locs (wX5 hT aT yT (sI gT 11 (gI gT_1 4)) ++ (wX7 (aT 1) aT_1 yT_1 gT_1 ++ (wX0 hT_15 aT_15 yT_15 gT_15))) := Hx_set X (set_l (by rw [wG_len (m := 5) rfl]; decide) (wG_sI (k := 11) rfl)) hP hD hS
  refine lv_aload_n hx hb dX5_readPart_13 rfl (lv_at hl 1 rfl) ?_
  refine lv_aload_n hx hb dX5_readPart_14 rfl (lv_at hl 1 rfl) ?_
  refine va_get (D := D.1) (ci := 5) (v := .ref (aT 1)) (C := RX5) (T := TX5) (N := 18) hx hb hts wi_X5 hown X.1 X.2.1 0 rfl rfl 1 (by decide) (hts _ q3_52) (fun _ h9 => h9) (fl_get (by decide)) dX5_readPart_15 ?_
  refine va_getN (D := D.1) (ci := 7) (v := .int (gI gT_1 5)) (C := RX7) (T := TX7) (N := 12) hx hb hts wi_X7 hown X.1 X.2.1 5 rfl rfl 5 (by decide) (X.2.2.2.2.2.1.use q3_2 rfl) (fun _ h9 => h9) (fl_get (by decide)) dX5_readPart_18 ?_
  refine va_put (D := D.1) (ci := 5) (v := .int (gI gT_1 5)) (ty := .int) (C := RX5) (T := TX5) (N := 18) hx hb hts wi_X5 tyX5 tyX5_ok nmX5 hown X.1 X.2.1 X.2.2.1 X.2.2.2.1 0 rfl rfl 12 (by decide) (hts _ q3_63) (fun _ h9 => h9) rfl (by decide +kernel) rfl rfl (by rw [List.length_map, List.length_range]; decide) dX5_readPart_21 (fun H locs hP hD hS => ?_)
  have X : Hx D (tX5 yT ++ (tX7 yT_1 ++ (tX0 yT_15))) A s H locs (wX5 hT aT yT (sI (sI gT 11 (gI gT_1 4)) 12 (gI gT_1 5)) ++ (wX7 (aT 1) aT_1 yT_1 gT_1 ++ (wX0 hT_15 aT_15 yT_15 gT_15))) := Hx_set X (set_l (by rw [wG_len (m := 5) rfl]; decide) (wG_sI (k := 12) rfl)) hP hD hS
  refine lv_aload_n hx hb dX5_readPart_24 rfl (lv_at hl 1 rfl) ?_
  refine lv_aload_n hx hb dX5_readPart_25 rfl (lv_at hl 1 rfl) ?_
  refine va_get (D := D.1) (ci := 5) (v := .ref (aT 1)) (C := RX5) (T := TX5) (N := 18) hx hb hts wi_X5 hown X.1 X.2.1 0 rfl rfl 1 (by decide) (hts _ q3_52) (fun _ h9 => h9) (fl_get (by decide)) dX5_readPart_26 ?_
  refine va_getN (D := D.1) (ci := 7) (v := .int (gI gT_1 6)) (C := RX7) (T := TX7) (N := 12) hx hb hts wi_X7 hown X.1 X.2.1 5 rfl rfl 6 (by decide) (X.2.2.2.2.2.1.use q3_4 rfl) (fun _ h9 => h9) (fl_get (by decide)) dX5_readPart_29 ?_
  refine va_put (D := D.1) (ci := 5) (v := .int (gI gT_1 6)) (ty := .int) (C := RX5) (T := TX5) (N := 18) hx hb hts wi_X5 tyX5 tyX5_ok nmX5 hown X.1 X.2.1 X.2.2.1 X.2.2.2.1 0 rfl rfl 13 (by decide) (hts _ q3_64) (fun _ h9 => h9) rfl (by decide +kernel) rfl rfl (by rw [List.length_map, List.length_range]; decide) dX5_readPart_32 (fun H locs hP hD hS => ?_)
  have X : Hx D (tX5 yT ++ (tX7 yT_1 ++ (tX0 yT_15))) A s H locs (wX5 hT aT yT (sI (sI (sI gT 11 (gI gT_1 4)) 12 (gI gT_1 5)) 13 (gI gT_1 6)) ++ (wX7 (aT 1) aT_1 yT_1 gT_1 ++ (wX0 hT_15 aT_15 yT_15 gT_15))) := Hx_set X (set_l (by rw [wG_len (m := 5) rfl]; decide) (wG_sI (k := 13) rfl)) hP hD hS
  refine lv_iload_n hx hb dX5_readPart_35 rfl (lv_at hl 0 rfl) ?_
  by_cases c2 : (gI gT_1 4) = (2 : Int32)
  · replace hF := iT c2 hF
    refine lv_tableIn (tgt := 270) (off := 234) hx hb dX5_readPart_36 (by rw [c2]; decide) (by rw [c2]; decide) (by rw [c2]; rfl) (by decide) ?_
    refine lv_aload_n hx hb dX5_readPart_270 rfl (lv_at hl 1 rfl) ?_
    refine lv_aload_n hx hb dX5_readPart_271 rfl (lv_at hl 1 rfl) ?_
    refine va_get (D := D.1) (ci := 5) (v := .int (gI gT_1 5)) (C := RX5) (T := TX5) (N := 18) hx hb hts wi_X5 hown X.1 X.2.1 0 rfl rfl 12 (by decide) (hts _ q3_63) (fun _ h9 => h9) (fl_get (by decide)) dX5_readPart_272 ?_
    obtain ⟨q_1, hc_2, hF⟩ := bnd_some hF
    refine cV_v (As := [.int (gI gT_1 5)]) (rest := []) C X (c_X5_countNode l D hT aT yT hT_15 aT_15 yT_15 (sI (sI (sI gT 11 (gI gT_1 4)) 12 (gI gT_1 5)) 13 (gI gT_1 6)) gT_15 (gI gT_1 5) q_1 hc_2 _) (cwV 1 hts (good_V q4_113 q4_115 q0_21 q1_10 q4_116) rfl rfl rfl (by decide +kernel) ⟨Nat.le_of_ble_eq_true rfl, Nat.le_of_ble_eq_true rfl⟩) (va_recv X.1 X.2.1 (ci := 5) (q0 := 0) rfl rfl) (X.1.sub (tys' := tX5 yT ++ (tX0 yT_15)) [0, 1, 2, 3, 4, 5, 6, 7, 8, 9, 10, 11, 12, 13, 14, 15, 16, 17, 18] rfl) (X.2.1.sub (ws' := wX5 hT aT yT (sI (sI (sI gT 11 (gI gT_1 4)) 12 (gI gT_1 5)) 13 (gI gT_1 6)) ++ (wX0 hT_15 aT_15 yT_15 gT_15)) [0, 1, 2, 3, 4, 6, 7, 8, 9, 10, 11, 12, 13, 14, 15, 16, 17, 18, 19, 20, 21] rfl) (X.2.2.1.sub (ws' := wX5 hT aT yT (sI (sI (sI gT 11 (gI gT_1 4)) 12 (gI gT_1 5)) 13 (gI gT_1 6)) ++ (wX0 hT_15 aT_15 yT_15 gT_15)) [0, 1, 2, 3, 4, 6, 7, 8, 9, 10, 11, 12, 13, 14, 15, 16, 17, 18, 19, 20, 21] (by decide) rfl) (free_of (wC := wX5 hT aT yT (sI (sI (sI gT 11 (gI gT_1 4)) 12 (gI gT_1 5)) 13 (gI gT_1 6)) ++ (wX0 hT_15 aT_15 yT_15 gT_15)) (isC := [0, 1, 2, 3, 4, 6, 7, 8, 9, 10, 11, 12, 13, 14, 15, 16, 17, 18, 19, 20, 21]) X rfl) hl.1 rfl rfl (Nat.le_of_ble_eq_true rfl) dX5_readPart_275 ⟨Nat.le_of_ble_eq_true rfl, Nat.le_of_ble_eq_true rfl⟩ (fun t H1 locs1 ht hB hk hS => ?_)
    have X : Hx D (tX5 yT ++ (tX7 yT_1 ++ (tX0 yT_15))) A s H1 locs1 (wX5 hT aT yT q_1.1 ++ (wX7 (aT 1) aT_1 yT_1 gT_1 ++ (wX0 hT_15 aT_15 yT_15 q_1.2))) := Hx_after (isC := [0, 1, 2, 3, 4, 6, 7, 8, 9, 10, 11, 12, 13, 14, 15, 16, 17, 18, 19, 20, 21]) (isR := [5]) (pm := [1, 2, 3, 4, 5, 0, 6, 7, 8, 9, 10, 11, 12, 13, 14, 15, 16, 17, 18, 19, 20, 21]) (wr := wX7 (aT 1) aT_1 yT_1 gT_1) X ⟨rfl, rfl, by decide, by decide, rfl, by decide⟩ ht hB hk hS
    clear hk hS ht hB
    generalize H1 = H at X ⊢
    generalize locs1 = locs at X ⊢
    refine lv_iconst (v := (4 : Int32)) hx hb dX5_readPart_278 (by decide) ?_
    have hq := Option.some.inj hF
    subst hq
    exact rt_i C X dX5_readPart_279
  · replace hF := iF c2 hF
    by_cases c3 : (gI gT_1 4) = (3 : Int32)
    · replace hF := iT c3 hF
      refine lv_tableIn (tgt := 264) (off := 228) hx hb dX5_readPart_36 (by rw [c3]; decide) (by rw [c3]; decide) (by rw [c3]; rfl) (by decide) ?_
      exact (k_X5_readPart_264 l D hT aT yT aT_1 yT_1 hT_15 aT_15 yT_15) C X (lv_sub hl [1, 0] rfl) hF
    · replace hF := iF c3 hF
      by_cases c4 : (gI gT_1 4) = (4 : Int32)
      · replace hF := iT c4 hF
        refine lv_tableIn (tgt := 349) (off := 313) hx hb dX5_readPart_36 (by rw [c4]; decide) (by rw [c4]; decide) (by rw [c4]; rfl) (by decide) ?_
        refine lv_iconst (v := (0 : Int32)) hx hb dX5_readPart_349 (by decide) ?_
        have hq := Option.some.inj hF
        subst hq
        exact rt_i C X dX5_readPart_350
      · replace hF := iF c4 hF
        by_cases c5 : (gI gT_1 4) = (5 : Int32)
        · replace hF := iT c5 hF
          refine lv_tableIn (tgt := 349) (off := 313) hx hb dX5_readPart_36 (by rw [c5]; decide) (by rw [c5]; decide) (by rw [c5]; rfl) (by decide) ?_
          refine lv_iconst (v := (0 : Int32)) hx hb dX5_readPart_349 (by decide) ?_
          have hq := Option.some.inj hF
          subst hq
          exact rt_i C X dX5_readPart_350
        · replace hF := iF c5 hF
          by_cases c6 : (gI gT_1 4) = (6 : Int32)
          · replace hF := iT c6 hF
            refine lv_tableIn (tgt := 349) (off := 313) hx hb dX5_readPart_36 (by rw [c6]; decide) (by rw [c6]; decide) (by rw [c6]; rfl) (by decide) ?_
            refine lv_iconst (v := (0 : Int32)) hx hb dX5_readPart_349 (by decide) ?_
            have hq := Option.some.inj hF
            subst hq
            exact rt_i C X dX5_readPart_350
          · replace hF := iF c6 hF
            by_cases c7 : (gI gT_1 4) = (7 : Int32)
            · replace hF := iT c7 hF
              refine lv_tableIn (tgt := 349) (off := 313) hx hb dX5_readPart_36 (by rw [c7]; decide) (by rw [c7]; decide) (by rw [c7]; rfl) (by decide) ?_
              refine lv_iconst (v := (0 : Int32)) hx hb dX5_readPart_349 (by decide) ?_
              have hq := Option.some.inj hF
              subst hq
              exact rt_i C X dX5_readPart_350
            · replace hF := iF c7 hF
              by_cases c8 : (gI gT_1 4) = (8 : Int32)
              · replace hF := iT c8 hF
                refine lv_tableIn (tgt := 349) (off := 313) hx hb dX5_readPart_36 (by rw [c8]; decide) (by rw [c8]; decide) (by rw [c8]; rfl) (by decide) ?_
                refine lv_iconst (v := (0 : Int32)) hx hb dX5_readPart_349 (by decide) ?_
                have hq := Option.some.inj hF
                subst hq
                exact rt_i C X dX5_readPart_350
              · replace hF := iF c8 hF
                by_cases c9 : (gI gT_1 4) = (9 : Int32)
                · replace hF := iT c9 hF
                  refine lv_tableIn (tgt := 349) (off := 313) hx hb dX5_readPart_36 (by rw [c9]; decide) (by rw [c9]; decide) (by rw [c9]; rfl) (by decide) ?_
                  refine lv_iconst (v := (0 : Int32)) hx hb dX5_readPart_349 (by decide) ?_
                  have hq := Option.some.inj hF
                  subst hq
                  exact rt_i C X dX5_readPart_350
                · replace hF := iF c9 hF
                  by_cases c10 : (gI gT_1 4) = (10 : Int32)
                  · replace hF := iT c10 hF
                    refine lv_tableIn (tgt := 349) (off := 313) hx hb dX5_readPart_36 (by rw [c10]; decide) (by rw [c10]; decide) (by rw [c10]; rfl) (by decide) ?_
                    refine lv_iconst (v := (0 : Int32)) hx hb dX5_readPart_349 (by decide) ?_
                    have hq := Option.some.inj hF
                    subst hq
                    exact rt_i C X dX5_readPart_350
                  · replace hF := iF c10 hF
                    by_cases c11 : (gI gT_1 4) = (11 : Int32)
                    · replace hF := iT c11 hF
                      refine lv_tableIn (tgt := 349) (off := 313) hx hb dX5_readPart_36 (by rw [c11]; decide) (by rw [c11]; decide) (by rw [c11]; rfl) (by decide) ?_
                      refine lv_iconst (v := (0 : Int32)) hx hb dX5_readPart_349 (by decide) ?_
                      have hq := Option.some.inj hF
                      subst hq
                      exact rt_i C X dX5_readPart_350
                    · replace hF := iF c11 hF
                      by_cases c12 : (gI gT_1 4) = (12 : Int32)
                      · replace hF := iT c12 hF
                        refine lv_tableIn (tgt := 349) (off := 313) hx hb dX5_readPart_36 (by rw [c12]; decide) (by rw [c12]; decide) (by rw [c12]; rfl) (by decide) ?_
                        refine lv_iconst (v := (0 : Int32)) hx hb dX5_readPart_349 (by decide) ?_
                        have hq := Option.some.inj hF
                        subst hq
                        exact rt_i C X dX5_readPart_350
                      · replace hF := iF c12 hF
                        by_cases c13 : (gI gT_1 4) = (13 : Int32)
                        · replace hF := iT c13 hF
                          refine lv_tableIn (tgt := 349) (off := 313) hx hb dX5_readPart_36 (by rw [c13]; decide) (by rw [c13]; decide) (by rw [c13]; rfl) (by decide) ?_
                          refine lv_iconst (v := (0 : Int32)) hx hb dX5_readPart_349 (by decide) ?_
                          have hq := Option.some.inj hF
                          subst hq
                          exact rt_i C X dX5_readPart_350
                        · replace hF := iF c13 hF
                          by_cases c14 : (gI gT_1 4) = (14 : Int32)
                          · replace hF := iT c14 hF
                            refine lv_tableIn (tgt := 349) (off := 313) hx hb dX5_readPart_36 (by rw [c14]; decide) (by rw [c14]; decide) (by rw [c14]; rfl) (by decide) ?_
                            refine lv_iconst (v := (0 : Int32)) hx hb dX5_readPart_349 (by decide) ?_
                            have hq := Option.some.inj hF
                            subst hq
                            exact rt_i C X dX5_readPart_350
                          · replace hF := iF c14 hF
                            by_cases c15 : (gI gT_1 4) = (15 : Int32)
                            · replace hF := iT c15 hF
                              refine lv_tableIn (tgt := 349) (off := 313) hx hb dX5_readPart_36 (by rw [c15]; decide) (by rw [c15]; decide) (by rw [c15]; rfl) (by decide) ?_
                              refine lv_iconst (v := (0 : Int32)) hx hb dX5_readPart_349 (by decide) ?_
                              have hq := Option.some.inj hF
                              subst hq
                              exact rt_i C X dX5_readPart_350
                            · replace hF := iF c15 hF
                              by_cases c16 : (gI gT_1 4) = (16 : Int32)
                              · replace hF := iT c16 hF
                                refine lv_tableIn (tgt := 280) (off := 244) hx hb dX5_readPart_36 (by rw [c16]; decide) (by rw [c16]; decide) (by rw [c16]; rfl) (by decide) ?_
                                refine lv_aload_n hx hb dX5_readPart_280 rfl (lv_at hl 1 rfl) ?_
                                refine lv_aload_n hx hb dX5_readPart_281 rfl (lv_at hl 1 rfl) ?_
                                refine va_get (D := D.1) (ci := 5) (v := .int (gI gT_1 5)) (C := RX5) (T := TX5) (N := 18) hx hb hts wi_X5 hown X.1 X.2.1 0 rfl rfl 12 (by decide) (hts _ q3_63) (fun _ h9 => h9) (fl_get (by decide)) dX5_readPart_282 ?_
                                obtain ⟨q_5, hc_6, hF⟩ := bnd_some hF
                                refine cV_v (As := [.int (gI gT_1 5)]) (rest := []) C X (c_X5_countNode l D hT aT yT hT_15 aT_15 yT_15 (sI (sI (sI gT 11 (gI gT_1 4)) 12 (gI gT_1 5)) 13 (gI gT_1 6)) gT_15 (gI gT_1 5) q_5 hc_6 _) (cwV 1 hts (good_V q4_113 q4_115 q0_21 q1_10 q4_116) rfl rfl rfl (by decide +kernel) ⟨Nat.le_of_ble_eq_true rfl, Nat.le_of_ble_eq_true rfl⟩) (va_recv X.1 X.2.1 (ci := 5) (q0 := 0) rfl rfl) (X.1.sub (tys' := tX5 yT ++ (tX0 yT_15)) [0, 1, 2, 3, 4, 5, 6, 7, 8, 9, 10, 11, 12, 13, 14, 15, 16, 17, 18] rfl) (X.2.1.sub (ws' := wX5 hT aT yT (sI (sI (sI gT 11 (gI gT_1 4)) 12 (gI gT_1 5)) 13 (gI gT_1 6)) ++ (wX0 hT_15 aT_15 yT_15 gT_15)) [0, 1, 2, 3, 4, 6, 7, 8, 9, 10, 11, 12, 13, 14, 15, 16, 17, 18, 19, 20, 21] rfl) (X.2.2.1.sub (ws' := wX5 hT aT yT (sI (sI (sI gT 11 (gI gT_1 4)) 12 (gI gT_1 5)) 13 (gI gT_1 6)) ++ (wX0 hT_15 aT_15 yT_15 gT_15)) [0, 1, 2, 3, 4, 6, 7, 8, 9, 10, 11, 12, 13, 14, 15, 16, 17, 18, 19, 20, 21] (by decide) rfl) (free_of (wC := wX5 hT aT yT (sI (sI (sI gT 11 (gI gT_1 4)) 12 (gI gT_1 5)) 13 (gI gT_1 6)) ++ (wX0 hT_15 aT_15 yT_15 gT_15)) (isC := [0, 1, 2, 3, 4, 6, 7, 8, 9, 10, 11, 12, 13, 14, 15, 16, 17, 18, 19, 20, 21]) X rfl) hl.1 rfl rfl (Nat.le_of_ble_eq_true rfl) dX5_readPart_285 ⟨Nat.le_of_ble_eq_true rfl, Nat.le_of_ble_eq_true rfl⟩ (fun t H1 locs1 ht hB hk hS => ?_)
                                have X : Hx D (tX5 yT ++ (tX7 yT_1 ++ (tX0 yT_15))) A s H1 locs1 (wX5 hT aT yT q_5.1 ++ (wX7 (aT 1) aT_1 yT_1 gT_1 ++ (wX0 hT_15 aT_15 yT_15 q_5.2))) := Hx_after (isC := [0, 1, 2, 3, 4, 6, 7, 8, 9, 10, 11, 12, 13, 14, 15, 16, 17, 18, 19, 20, 21]) (isR := [5]) (pm := [1, 2, 3, 4, 5, 0, 6, 7, 8, 9, 10, 11, 12, 13, 14, 15, 16, 17, 18, 19, 20, 21]) (wr := wX7 (aT 1) aT_1 yT_1 gT_1) X ⟨rfl, rfl, by decide, by decide, rfl, by decide⟩ ht hB hk hS
                                clear hk hS ht hB
                                generalize H1 = H at X ⊢
                                generalize locs1 = locs at X ⊢
                                refine lv_bipush (v := (8 : Int32)) hx hb dX5_readPart_288 (by decide) ?_
                                have hq := Option.some.inj hF
                                subst hq
                                exact rt_i C X dX5_readPart_290
                              · replace hF := iF c16 hF
                                by_cases c17 : (gI gT_1 4) = (17 : Int32)
                                · replace hF := iT c17 hF
                                  refine lv_tableIn (tgt := 264) (off := 228) hx hb dX5_readPart_36 (by rw [c17]; decide) (by rw [c17]; decide) (by rw [c17]; rfl) (by decide) ?_
                                  exact (k_X5_readPart_264 l D hT aT yT aT_1 yT_1 hT_15 aT_15 yT_15) C X (lv_sub hl [1, 0] rfl) hF
                                · replace hF := iF c17 hF
                                  by_cases c18 : (gI gT_1 4) = (18 : Int32)
                                  · replace hF := iT c18 hF
                                    refine lv_tableIn (tgt := 264) (off := 228) hx hb dX5_readPart_36 (by rw [c18]; decide) (by rw [c18]; decide) (by rw [c18]; rfl) (by decide) ?_
                                    exact (k_X5_readPart_264 l D hT aT yT aT_1 yT_1 hT_15 aT_15 yT_15) C X (lv_sub hl [1, 0] rfl) hF
                                  · replace hF := iF c18 hF
                                    by_cases c19 : (gI gT_1 4) = (19 : Int32)
                                    · replace hF := iT c19 hF
                                      refine lv_tableIn (tgt := 291) (off := 255) hx hb dX5_readPart_36 (by rw [c19]; decide) (by rw [c19]; decide) (by rw [c19]; rfl) (by decide) ?_
                                      exact (k_X5_readPart_291 l D hT aT yT aT_1 yT_1 hT_15 aT_15 yT_15) C X (lv_sub hl [1] rfl) hF
                                    · replace hF := iF c19 hF
                                      by_cases c20 : (gI gT_1 4) = (20 : Int32)
                                      · replace hF := iT c20 hF
                                        refine lv_tableIn (tgt := 291) (off := 255) hx hb dX5_readPart_36 (by rw [c20]; decide) (by rw [c20]; decide) (by rw [c20]; rfl) (by decide) ?_
                                        exact (k_X5_readPart_291 l D hT aT yT aT_1 yT_1 hT_15 aT_15 yT_15) C X (lv_sub hl [1] rfl) hF
                                      · replace hF := iF c20 hF
                                        by_cases c21 : (gI gT_1 4) = (21 : Int32)
                                        · replace hF := iT c21 hF
                                          refine lv_tableIn (tgt := 291) (off := 255) hx hb dX5_readPart_36 (by rw [c21]; decide) (by rw [c21]; decide) (by rw [c21]; rfl) (by decide) ?_
                                          exact (k_X5_readPart_291 l D hT aT yT aT_1 yT_1 hT_15 aT_15 yT_15) C X (lv_sub hl [1] rfl) hF
                                        · replace hF := iF c21 hF
                                          by_cases c22 : (gI gT_1 4) = (22 : Int32)
                                          · replace hF := iT c22 hF
                                            refine lv_tableIn (tgt := 291) (off := 255) hx hb dX5_readPart_36 (by rw [c22]; decide) (by rw [c22]; decide) (by rw [c22]; rfl) (by decide) ?_
                                            exact (k_X5_readPart_291 l D hT aT yT aT_1 yT_1 hT_15 aT_15 yT_15) C X (lv_sub hl [1] rfl) hF
                                          · replace hF := iF c22 hF
                                            by_cases c23 : (gI gT_1 4) = (23 : Int32)
                                            · replace hF := iT c23 hF
                                              refine lv_tableIn (tgt := 291) (off := 255) hx hb dX5_readPart_36 (by rw [c23]; decide) (by rw [c23]; decide) (by rw [c23]; rfl) (by decide) ?_
                                              exact (k_X5_readPart_291 l D hT aT yT aT_1 yT_1 hT_15 aT_15 yT_15) C X (lv_sub hl [1] rfl) hF
                                            · replace hF := iF c23 hF
                                              by_cases c24 : (gI gT_1 4) = (24 : Int32)
                                              · replace hF := iT c24 hF
                                                refine lv_tableIn (tgt := 291) (off := 255) hx hb dX5_readPart_36 (by rw [c24]; decide) (by rw [c24]; decide) (by rw [c24]; rfl) (by decide) ?_
                                                exact (k_X5_readPart_291 l D hT aT yT aT_1 yT_1 hT_15 aT_15 yT_15) C X (lv_sub hl [1] rfl) hF
                                              · replace hF := iF c24 hF
                                                by_cases c25 : (gI gT_1 4) = (25 : Int32)
                                                · replace hF := iT c25 hF
                                                  refine lv_tableIn (tgt := 291) (off := 255) hx hb dX5_readPart_36 (by rw [c25]; decide) (by rw [c25]; decide) (by rw [c25]; rfl) (by decide) ?_
                                                  exact (k_X5_readPart_291 l D hT aT yT aT_1 yT_1 hT_15 aT_15 yT_15) C X (lv_sub hl [1] rfl) hF
                                                · replace hF := iF c25 hF
                                                  by_cases c26 : (gI gT_1 4) = (26 : Int32)
                                                  · replace hF := iT c26 hF
                                                    refine lv_tableIn (tgt := 264) (off := 228) hx hb dX5_readPart_36 (by rw [c26]; decide) (by rw [c26]; decide) (by rw [c26]; rfl) (by decide) ?_
                                                    exact (k_X5_readPart_264 l D hT aT yT aT_1 yT_1 hT_15 aT_15 yT_15) C X (lv_sub hl [1, 0] rfl) hF
                                                  · replace hF := iF c26 hF
                                                    by_cases c27 : (gI gT_1 4) = (27 : Int32)
                                                    · replace hF := iT c27 hF
                                                      refine lv_tableIn (tgt := 264) (off := 228) hx hb dX5_readPart_36 (by rw [c27]; decide) (by rw [c27]; decide) (by rw [c27]; rfl) (by decide) ?_
                                                      exact (k_X5_readPart_264 l D hT aT yT aT_1 yT_1 hT_15 aT_15 yT_15) C X (lv_sub hl [1, 0] rfl) hF
                                                    · replace hF := iF c27 hF
                                                      by_cases c28 : (gI gT_1 4) = (28 : Int32)
                                                      · replace hF := iT c28 hF
                                                        refine lv_tableIn (tgt := 349) (off := 313) hx hb dX5_readPart_36 (by rw [c28]; decide) (by rw [c28]; decide) (by rw [c28]; rfl) (by decide) ?_
                                                        refine lv_iconst (v := (0 : Int32)) hx hb dX5_readPart_349 (by decide) ?_
                                                        have hq := Option.some.inj hF
                                                        subst hq
                                                        exact rt_i C X dX5_readPart_350
                                                      · replace hF := iF c28 hF
                                                        by_cases c29 : (gI gT_1 4) = (29 : Int32)
                                                        · replace hF := iT c29 hF
                                                          refine lv_tableIn (tgt := 349) (off := 313) hx hb dX5_readPart_36 (by rw [c29]; decide) (by rw [c29]; decide) (by rw [c29]; rfl) (by decide) ?_
                                                          refine lv_iconst (v := (0 : Int32)) hx hb dX5_readPart_349 (by decide) ?_
                                                          have hq := Option.some.inj hF
                                                          subst hq
                                                          exact rt_i C X dX5_readPart_350
                                                        · replace hF := iF c29 hF
                                                          by_cases c30 : (gI gT_1 4) = (30 : Int32)
                                                          · replace hF := iT c30 hF
                                                            refine lv_tableIn (tgt := 349) (off := 313) hx hb dX5_readPart_36 (by rw [c30]; decide) (by rw [c30]; decide) (by rw [c30]; rfl) (by decide) ?_
                                                            refine lv_iconst (v := (0 : Int32)) hx hb dX5_readPart_349 (by decide) ?_
                                                            have hq := Option.some.inj hF
                                                            subst hq
                                                            exact rt_i C X dX5_readPart_350
                                                          · replace hF := iF c30 hF
                                                            by_cases c31 : (gI gT_1 4) = (31 : Int32)
                                                            · replace hF := iT c31 hF
                                                              refine lv_tableIn (tgt := 349) (off := 313) hx hb dX5_readPart_36 (by rw [c31]; decide) (by rw [c31]; decide) (by rw [c31]; rfl) (by decide) ?_
                                                              refine lv_iconst (v := (0 : Int32)) hx hb dX5_readPart_349 (by decide) ?_
                                                              have hq := Option.some.inj hF
                                                              subst hq
                                                              exact rt_i C X dX5_readPart_350
                                                            · replace hF := iF c31 hF
                                                              by_cases c32 : (gI gT_1 4) = (32 : Int32)
                                                              · replace hF := iT c32 hF
                                                                refine lv_tableIn (tgt := 349) (off := 313) hx hb dX5_readPart_36 (by rw [c32]; decide) (by rw [c32]; decide) (by rw [c32]; rfl) (by decide) ?_
                                                                refine lv_iconst (v := (0 : Int32)) hx hb dX5_readPart_349 (by decide) ?_
                                                                have hq := Option.some.inj hF
                                                                subst hq
                                                                exact rt_i C X dX5_readPart_350
                                                              · replace hF := iF c32 hF
                                                                by_cases c33 : (gI gT_1 4) = (33 : Int32)
                                                                · replace hF := iT c33 hF
                                                                  refine lv_tableIn (tgt := 349) (off := 313) hx hb dX5_readPart_36 (by rw [c33]; decide) (by rw [c33]; decide) (by rw [c33]; rfl) (by decide) ?_
                                                                  refine lv_iconst (v := (0 : Int32)) hx hb dX5_readPart_349 (by decide) ?_
                                                                  have hq := Option.some.inj hF
                                                                  subst hq
                                                                  exact rt_i C X dX5_readPart_350
                                                                · replace hF := iF c33 hF
                                                                  by_cases c34 : (gI gT_1 4) = (34 : Int32)
                                                                  · replace hF := iT c34 hF
                                                                    refine lv_tableIn (tgt := 349) (off := 313) hx hb dX5_readPart_36 (by rw [c34]; decide) (by rw [c34]; decide) (by rw [c34]; rfl) (by decide) ?_
                                                                    refine lv_iconst (v := (0 : Int32)) hx hb dX5_readPart_349 (by decide) ?_
                                                                    have hq := Option.some.inj hF
                                                                    subst hq
                                                                    exact rt_i C X dX5_readPart_350
                                                                  · replace hF := iF c34 hF
                                                                    by_cases c35 : (gI gT_1 4) = (35 : Int32)
                                                                    · replace hF := iT c35 hF
                                                                      refine lv_tableIn (tgt := 349) (off := 313) hx hb dX5_readPart_36 (by rw [c35]; decide) (by rw [c35]; decide) (by rw [c35]; rfl) (by decide) ?_
                                                                      refine lv_iconst (v := (0 : Int32)) hx hb dX5_readPart_349 (by decide) ?_
                                                                      have hq := Option.some.inj hF
                                                                      subst hq
                                                                      exact rt_i C X dX5_readPart_350
                                                                    · replace hF := iF c35 hF
                                                                      by_cases c36 : (gI gT_1 4) = (36 : Int32)
                                                                      · replace hF := iT c36 hF
                                                                        refine lv_tableIn (tgt := 349) (off := 313) hx hb dX5_readPart_36 (by rw [c36]; decide) (by rw [c36]; decide) (by rw [c36]; rfl) (by decide) ?_
                                                                        refine lv_iconst (v := (0 : Int32)) hx hb dX5_readPart_349 (by decide) ?_
                                                                        have hq := Option.some.inj hF
                                                                        subst hq
                                                                        exact rt_i C X dX5_readPart_350
                                                                      · replace hF := iF c36 hF
                                                                        by_cases c37 : (gI gT_1 4) = (37 : Int32)
                                                                        · replace hF := iT c37 hF
                                                                          refine lv_tableIn (tgt := 349) (off := 313) hx hb dX5_readPart_36 (by rw [c37]; decide) (by rw [c37]; decide) (by rw [c37]; rfl) (by decide) ?_
                                                                          refine lv_iconst (v := (0 : Int32)) hx hb dX5_readPart_349 (by decide) ?_
                                                                          have hq := Option.some.inj hF
                                                                          subst hq
                                                                          exact rt_i C X dX5_readPart_350
                                                                        · replace hF := iF c37 hF
                                                                          by_cases c38 : (gI gT_1 4) = (38 : Int32)
                                                                          · replace hF := iT c38 hF
                                                                            refine lv_tableIn (tgt := 349) (off := 313) hx hb dX5_readPart_36 (by rw [c38]; decide) (by rw [c38]; decide) (by rw [c38]; rfl) (by decide) ?_
                                                                            refine lv_iconst (v := (0 : Int32)) hx hb dX5_readPart_349 (by decide) ?_
                                                                            have hq := Option.some.inj hF
                                                                            subst hq
                                                                            exact rt_i C X dX5_readPart_350
                                                                          · replace hF := iF c38 hF
                                                                            by_cases c39 : (gI gT_1 4) = (39 : Int32)
                                                                            · replace hF := iT c39 hF
                                                                              refine lv_tableIn (tgt := 349) (off := 313) hx hb dX5_readPart_36 (by rw [c39]; decide) (by rw [c39]; decide) (by rw [c39]; rfl) (by decide) ?_
                                                                              refine lv_iconst (v := (0 : Int32)) hx hb dX5_readPart_349 (by decide) ?_
                                                                              have hq := Option.some.inj hF
                                                                              subst hq
                                                                              exact rt_i C X dX5_readPart_350
                                                                            · replace hF := iF c39 hF
                                                                              by_cases c40 : (gI gT_1 4) = (40 : Int32)
                                                                              · replace hF := iT c40 hF
                                                                                refine lv_tableIn (tgt := 349) (off := 313) hx hb dX5_readPart_36 (by rw [c40]; decide) (by rw [c40]; decide) (by rw [c40]; rfl) (by decide) ?_
                                                                                refine lv_iconst (v := (0 : Int32)) hx hb dX5_readPart_349 (by decide) ?_
                                                                                have hq := Option.some.inj hF
                                                                                subst hq
                                                                                exact rt_i C X dX5_readPart_350
                                                                              · replace hF := iF c40 hF
                                                                                by_cases c41 : (gI gT_1 4) = (41 : Int32)
                                                                                · replace hF := iT c41 hF
                                                                                  refine lv_tableIn (tgt := 349) (off := 313) hx hb dX5_readPart_36 (by rw [c41]; decide) (by rw [c41]; decide) (by rw [c41]; rfl) (by decide) ?_
                                                                                  refine lv_iconst (v := (0 : Int32)) hx hb dX5_readPart_349 (by decide) ?_
                                                                                  have hq := Option.some.inj hF
                                                                                  subst hq
                                                                                  exact rt_i C X dX5_readPart_350
                                                                                · replace hF := iF c41 hF
                                                                                  by_cases c42 : (gI gT_1 4) = (42 : Int32)
                                                                                  · replace hF := iT c42 hF
                                                                                    refine lv_tableIn (tgt := 349) (off := 313) hx hb dX5_readPart_36 (by rw [c42]; decide) (by rw [c42]; decide) (by rw [c42]; rfl) (by decide) ?_
                                                                                    refine lv_iconst (v := (0 : Int32)) hx hb dX5_readPart_349 (by decide) ?_
                                                                                    have hq := Option.some.inj hF
                                                                                    subst hq
                                                                                    exact rt_i C X dX5_readPart_350
                                                                                  · replace hF := iF c42 hF
                                                                                    by_cases c43 : (gI gT_1 4) = (43 : Int32)
                                                                                    · replace hF := iT c43 hF
                                                                                      refine lv_tableIn (tgt := 349) (off := 313) hx hb dX5_readPart_36 (by rw [c43]; decide) (by rw [c43]; decide) (by rw [c43]; rfl) (by decide) ?_
                                                                                      refine lv_iconst (v := (0 : Int32)) hx hb dX5_readPart_349 (by decide) ?_
                                                                                      have hq := Option.some.inj hF
                                                                                      subst hq
                                                                                      exact rt_i C X dX5_readPart_350
                                                                                    · replace hF := iF c43 hF
                                                                                      by_cases c44 : (gI gT_1 4) = (44 : Int32)
                                                                                      · replace hF := iT c44 hF
                                                                                        refine lv_tableIn (tgt := 349) (off := 313) hx hb dX5_readPart_36 (by rw [c44]; decide) (by rw [c44]; decide) (by rw [c44]; rfl) (by decide) ?_
                                                                                        refine lv_iconst (v := (0 : Int32)) hx hb dX5_readPart_349 (by decide) ?_
                                                                                        have hq := Option.some.inj hF
                                                                                        subst hq
                                                                                        exact rt_i C X dX5_readPart_350
                                                                                      · replace hF := iF c44 hF
                                                                                        by_cases c45 : (gI gT_1 4) = (45 : Int32)
                                                                                        · replace hF := iT c45 hF
                                                                                          refine lv_tableIn (tgt := 333) (off := 297) hx hb dX5_readPart_36 (by rw [c45]; decide) (by rw [c45]; decide) (by rw [c45]; rfl) (by decide) ?_
                                                                                          refine lv_aload_n hx hb dX5_readPart_333 rfl (lv_at hl 1 rfl) ?_
                                                                                          refine va_get (D := D.1) (ci := 5) (v := .int (gI gT 9)) (C := RX5) (T := TX5) (N := 18) hx hb hts wi_X5 hown X.1 X.2.1 0 rfl rfl 9 (by decide) (hts _ q3_60) (fun _ h9 => h9) (fl_get (by decide)) dX5_readPart_334 ?_
                                                                                          refine lv_bipush (v := (40 : Int32)) hx hb dX5_readPart_337 (by decide) ?_
                                                                                          refine lv_icmp_lt (tgt := 346) hx hb dX5_readPart_339 (by decide) (fun c => ?_) (fun c => ?_)
                                                                                          · replace hF := iT c hF
                                                                                            refine lv_bipush (v := (6 : Int32)) hx hb dX5_readPart_346 (by decide) ?_
                                                                                            have hq := Option.some.inj hF
                                                                                            subst hq
                                                                                            exact rt_i C X dX5_readPart_348
                                                                                          · replace hF := iF c hF
                                                                                            refine lv_iconst (v := (0 : Int32)) hx hb dX5_readPart_342 (by decide) ?_
                                                                                            refine lv_goto (tgt := 348) hx hb dX5_readPart_343 (by decide) ?_
                                                                                            have hq := Option.some.inj hF
                                                                                            subst hq
                                                                                            exact rt_i C X dX5_readPart_348
                                                                                        · replace hF := iF c45 hF
                                                                                          by_cases c46 : (gI gT_1 4) = (46 : Int32)
                                                                                          · replace hF := iT c46 hF
                                                                                            refine lv_tableIn (tgt := 349) (off := 313) hx hb dX5_readPart_36 (by rw [c46]; decide) (by rw [c46]; decide) (by rw [c46]; rfl) (by decide) ?_
                                                                                            refine lv_iconst (v := (0 : Int32)) hx hb dX5_readPart_349 (by decide) ?_
                                                                                            have hq := Option.some.inj hF
                                                                                            subst hq
                                                                                            exact rt_i C X dX5_readPart_350
                                                                                          · replace hF := iF c46 hF
                                                                                            by_cases c47 : (gI gT_1 4) = (47 : Int32)
                                                                                            · replace hF := iT c47 hF
                                                                                              refine lv_tableIn (tgt := 349) (off := 313) hx hb dX5_readPart_36 (by rw [c47]; decide) (by rw [c47]; decide) (by rw [c47]; rfl) (by decide) ?_
                                                                                              refine lv_iconst (v := (0 : Int32)) hx hb dX5_readPart_349 (by decide) ?_
                                                                                              have hq := Option.some.inj hF
                                                                                              subst hq
                                                                                              exact rt_i C X dX5_readPart_350
                                                                                            · replace hF := iF c47 hF
                                                                                              by_cases c48 : (gI gT_1 4) = (48 : Int32)
                                                                                              · replace hF := iT c48 hF
                                                                                                refine lv_tableIn (tgt := 349) (off := 313) hx hb dX5_readPart_36 (by rw [c48]; decide) (by rw [c48]; decide) (by rw [c48]; rfl) (by decide) ?_
                                                                                                refine lv_iconst (v := (0 : Int32)) hx hb dX5_readPart_349 (by decide) ?_
                                                                                                have hq := Option.some.inj hF
                                                                                                subst hq
                                                                                                exact rt_i C X dX5_readPart_350
                                                                                              · replace hF := iF c48 hF
                                                                                                by_cases c49 : (gI gT_1 4) = (49 : Int32)
                                                                                                · replace hF := iT c49 hF
                                                                                                  refine lv_tableIn (tgt := 349) (off := 313) hx hb dX5_readPart_36 (by rw [c49]; decide) (by rw [c49]; decide) (by rw [c49]; rfl) (by decide) ?_
                                                                                                  refine lv_iconst (v := (0 : Int32)) hx hb dX5_readPart_349 (by decide) ?_
                                                                                                  have hq := Option.some.inj hF
                                                                                                  subst hq
                                                                                                  exact rt_i C X dX5_readPart_350
                                                                                                · replace hF := iF c49 hF
                                                                                                  by_cases c50 : (gI gT_1 4) = (50 : Int32)
                                                                                                  · replace hF := iT c50 hF
                                                                                                    refine lv_tableIn (tgt := 301) (off := 265) hx hb dX5_readPart_36 (by rw [c50]; decide) (by rw [c50]; decide) (by rw [c50]; rfl) (by decide) ?_
                                                                                                    exact (k_X5_readPart_301 l D hT aT yT aT_1 yT_1 hT_15 aT_15 yT_15) C X (lv_sub hl [1, 0] rfl) hF
                                                                                                  · replace hF := iF c50 hF
                                                                                                    by_cases c51 : (gI gT_1 4) = (51 : Int32)
                                                                                                    · replace hF := iT c51 hF
                                                                                                      refine lv_tableIn (tgt := 349) (off := 313) hx hb dX5_readPart_36 (by rw [c51]; decide) (by rw [c51]; decide) (by rw [c51]; rfl) (by decide) ?_
                                                                                                      refine lv_iconst (v := (0 : Int32)) hx hb dX5_readPart_349 (by decide) ?_
                                                                                                      have hq := Option.some.inj hF
                                                                                                      subst hq
                                                                                                      exact rt_i C X dX5_readPart_350
                                                                                                    · replace hF := iF c51 hF
                                                                                                      by_cases c52 : (gI gT_1 4) = (52 : Int32)
                                                                                                      · replace hF := iT c52 hF
                                                                                                        refine lv_tableIn (tgt := 349) (off := 313) hx hb dX5_readPart_36 (by rw [c52]; decide) (by rw [c52]; decide) (by rw [c52]; rfl) (by decide) ?_
                                                                                                        refine lv_iconst (v := (0 : Int32)) hx hb dX5_readPart_349 (by decide) ?_
                                                                                                        have hq := Option.some.inj hF
                                                                                                        subst hq
                                                                                                        exact rt_i C X dX5_readPart_350
                                                                                                      · replace hF := iF c52 hF
                                                                                                        by_cases c53 : (gI gT_1 4) = (53 : Int32)
                                                                                                        · replace hF := iT c53 hF
                                                                                                          refine lv_tableIn (tgt := 349) (off := 313) hx hb dX5_readPart_36 (by rw [c53]; decide) (by rw [c53]; decide) (by rw [c53]; rfl) (by decide) ?_
                                                                                                          refine lv_iconst (v := (0 : Int32)) hx hb dX5_readPart_349 (by decide) ?_
                                                                                                          have hq := Option.some.inj hF
                                                                                                          subst hq
                                                                                                          exact rt_i C X dX5_readPart_350
                                                                                                        · replace hF := iF c53 hF
                                                                                                          by_cases c54 : (gI gT_1 4) = (54 : Int32)
                                                                                                          · replace hF := iT c54 hF
                                                                                                            refine lv_tableIn (tgt := 301) (off := 265) hx hb dX5_readPart_36 (by rw [c54]; decide) (by rw [c54]; decide) (by rw [c54]; rfl) (by decide) ?_
                                                                                                            exact (k_X5_readPart_301 l D hT aT yT aT_1 yT_1 hT_15 aT_15 yT_15) C X (lv_sub hl [1, 0] rfl) hF
                                                                                                          · replace hF := iF c54 hF
                                                                                                            refine lv_tableOut (tgt := 349) hx hb dX5_readPart_36 (tbl_out (2) (54) 53 (by decide) ⟨tne c2 (by decide), ⟨tne c3 (by decide), ⟨tne c4 (by decide), ⟨tne c5 (by decide), ⟨tne c6 (by decide), ⟨tne c7 (by decide), ⟨tne c8 (by decide), ⟨tne c9 (by decide), ⟨tne c10 (by decide), ⟨tne c11 (by decide), ⟨tne c12 (by decide), ⟨tne c13 (by decide), ⟨tne c14 (by decide), ⟨tne c15 (by decide), ⟨tne c16 (by decide), ⟨tne c17 (by decide), ⟨tne c18 (by decide), ⟨tne c19 (by decide), ⟨tne c20 (by decide), ⟨tne c21 (by decide), ⟨tne c22 (by decide), ⟨tne c23 (by decide), ⟨tne c24 (by decide), ⟨tne c25 (by decide), ⟨tne c26 (by decide), ⟨tne c27 (by decide), ⟨tne c28 (by decide), ⟨tne c29 (by decide), ⟨tne c30 (by decide), ⟨tne c31 (by decide), ⟨tne c32 (by decide), ⟨tne c33 (by decide), ⟨tne c34 (by decide), ⟨tne c35 (by decide), ⟨tne c36 (by decide), ⟨tne c37 (by decide), ⟨tne c38 (by decide), ⟨tne c39 (by decide), ⟨tne c40 (by decide), ⟨tne c41 (by decide), ⟨tne c42 (by decide), ⟨tne c43 (by decide), ⟨tne c44 (by decide), ⟨tne c45 (by decide), ⟨tne c46 (by decide), ⟨tne c47 (by decide), ⟨tne c48 (by decide), ⟨tne c49 (by decide), ⟨tne c50 (by decide), ⟨tne c51 (by decide), ⟨tne c52 (by decide), ⟨tne c53 (by decide), ⟨tne c54 (by decide), trivial⟩⟩⟩⟩⟩⟩⟩⟩⟩⟩⟩⟩⟩⟩⟩⟩⟩⟩⟩⟩⟩⟩⟩⟩⟩⟩⟩⟩⟩⟩⟩⟩⟩⟩⟩⟩⟩⟩⟩⟩⟩⟩⟩⟩⟩⟩⟩⟩⟩⟩⟩⟩⟩) (by decide) ?_
                                                                                                            refine lv_iconst (v := (0 : Int32)) hx hb dX5_readPart_349 (by decide) ?_
                                                                                                            have hq := Option.some.inj hF
                                                                                                            subst hq
                                                                                                            exact rt_i C X dX5_readPart_350

/-! ### X5_readBehind -/
theorem dX5_readBehind_0 : decode cX5_readBehind 0 = .ok (.aload_n 0, 1) := by decide +kernel
theorem dX5_readBehind_1 : decode cX5_readBehind 1 = .ok (.getfield 77, 3) := by decide +kernel
theorem dX5_readBehind_4 : decode cX5_readBehind 4 = .ok (.getfield 100, 3) := by decide +kernel
theorem dX5_readBehind_7 : decode cX5_readBehind 7 = .ok (.istore_n 2, 1) := by decide +kernel
theorem dX5_readBehind_8 : decode cX5_readBehind 8 = .ok (.iload_n 1, 1) := by decide +kernel
theorem dX5_readBehind_9 : decode cX5_readBehind 9 = .ok (.tableswitch 248 4 9 #[39, 92, 117, 163, 192, 214], 39) := by decide +kernel
theorem dX5_readBehind_48 : decode cX5_readBehind 48 = .ok (.iload_n 2, 1) := by decide +kernel
theorem dX5_readBehind_49 : decode cX5_readBehind 49 = .ok (.bipush 47, 2) := by decide +kernel
theorem dX5_readBehind_51 : decode cX5_readBehind 51 = .ok (.if_icmp .ne 25, 3) := by decide +kernel
theorem dX5_readBehind_54 : decode cX5_readBehind 54 = .ok (.aload_n 0, 1) := by decide +kernel
theorem dX5_readBehind_55 : decode cX5_readBehind 55 = .ok (.bipush 64, 2) := by decide +kernel
theorem dX5_readBehind_57 : decode cX5_readBehind 57 = .ok (.aload_n 0, 1) := by decide +kernel
theorem dX5_readBehind_58 : decode cX5_readBehind 58 = .ok (.getfield 77, 3) := by decide +kernel
theorem dX5_readBehind_61 : decode cX5_readBehind 61 = .ok (.getfield 114, 3) := by decide +kernel
theorem dX5_readBehind_64 : decode cX5_readBehind 64 = .ok (.aload_n 0, 1) := by decide +kernel
theorem dX5_readBehind_65 : decode cX5_readBehind 65 = .ok (.getfield 45, 3) := by decide +kernel
theorem dX5_readBehind_68 : decode cX5_readBehind 68 = .ok (.aload_n 0, 1) := by decide +kernel
theorem dX5_readBehind_69 : decode cX5_readBehind 69 = .ok (.getfield 48, 3) := by decide +kernel
theorem dX5_readBehind_72 : decode cX5_readBehind 72 = .ok (.invokevirtual 263, 3) := by decide +kernel
theorem dX5_readBehind_75 : decode cX5_readBehind 75 = .ok (.ireturn, 1) := by decide +kernel
theorem dX5_readBehind_76 : decode cX5_readBehind 76 = .ok (.aload_n 0, 1) := by decide +kernel
theorem dX5_readBehind_77 : decode cX5_readBehind 77 = .ok (.iconst 0, 1) := by decide +kernel
theorem dX5_readBehind_78 : decode cX5_readBehind 78 = .ok (.putfield 38, 3) := by decide +kernel
theorem dX5_readBehind_81 : decode cX5_readBehind 81 = .ok (.aload_n 0, 1) := by decide +kernel
theorem dX5_readBehind_82 : decode cX5_readBehind 82 = .ok (.bipush 63, 2) := by decide +kernel
theorem dX5_readBehind_84 : decode cX5_readBehind 84 = .ok (.aload_n 0, 1) := by decide +kernel
theorem dX5_readBehind_85 : decode cX5_readBehind 85 = .ok (.getfield 45, 3) := by decide +kernel
theorem dX5_readBehind_88 : decode cX5_readBehind 88 = .ok (.aload_n 0, 1) := by decide +kernel
theorem dX5_readBehind_89 : decode cX5_readBehind 89 = .ok (.getfield 45, 3) := by decide +kernel
theorem dX5_readBehind_92 : decode cX5_readBehind 92 = .ok (.aload_n 0, 1) := by decide +kernel
theorem dX5_readBehind_93 : decode cX5_readBehind 93 = .ok (.getfield 48, 3) := by decide +kernel
theorem dX5_readBehind_96 : decode cX5_readBehind 96 = .ok (.invokevirtual 273, 3) := by decide +kernel
theorem dX5_readBehind_99 : decode cX5_readBehind 99 = .ok (.iconst 3, 1) := by decide +kernel
theorem dX5_readBehind_100 : decode cX5_readBehind 100 = .ok (.ireturn, 1) := by decide +kernel
theorem dX5_readBehind_101 : decode cX5_readBehind 101 = .ok (.iload_n 2, 1) := by decide +kernel
theorem dX5_readBehind_102 : decode cX5_readBehind 102 = .ok (.bipush 45, 2) := by decide +kernel
theorem dX5_readBehind_104 : decode cX5_readBehind 104 = .ok (.if_icmp .ne 20, 3) := by decide +kernel
theorem dX5_readBehind_107 : decode cX5_readBehind 107 = .ok (.aload_n 0, 1) := by decide +kernel
theorem dX5_readBehind_108 : decode cX5_readBehind 108 = .ok (.aload_n 0, 1) := by decide +kernel
theorem dX5_readBehind_109 : decode cX5_readBehind 109 = .ok (.getfield 42, 3) := by decide +kernel
theorem dX5_readBehind_112 : decode cX5_readBehind 112 = .ok (.aload_n 0, 1) := by decide +kernel
theorem dX5_readBehind_113 : decode cX5_readBehind 113 = .ok (.getfield 45, 3) := by decide +kernel
theorem dX5_readBehind_116 : decode cX5_readBehind 116 = .ok (.iconst (-1), 1) := by decide +kernel
theorem dX5_readBehind_117 : decode cX5_readBehind 117 = .ok (.iconst 0, 1) := by decide +kernel
theorem dX5_readBehind_118 : decode cX5_readBehind 118 = .ok (.invokevirtual 263, 3) := by decide +kernel
theorem dX5_readBehind_121 : decode cX5_readBehind 121 = .ok (.goto 4, 3) := by decide +kernel
theorem dX5_readBehind_124 : decode cX5_readBehind 124 = .ok (.iconst 0, 1) := by decide +kernel
theorem dX5_readBehind_125 : decode cX5_readBehind 125 = .ok (.ireturn, 1) := by decide +kernel
theorem dX5_readBehind_126 : decode cX5_readBehind 126 = .ok (.iload_n 2, 1) := by decide +kernel
theorem dX5_readBehind_127 : decode cX5_readBehind 127 = .ok (.bipush 28, 2) := by decide +kernel
theorem dX5_readBehind_129 : decode cX5_readBehind 129 = .ok (.if_icmp .lt 9, 3) := by decide +kernel
theorem dX5_readBehind_132 : decode cX5_readBehind 132 = .ok (.iload_n 2, 1) := by decide +kernel
theorem dX5_readBehind_133 : decode cX5_readBehind 133 = .ok (.bipush 35, 2) := by decide +kernel
theorem dX5_readBehind_135 : decode cX5_readBehind 135 = .ok (.if_icmp .le 21, 3) := by decide +kernel
theorem dX5_readBehind_138 : decode cX5_readBehind 138 = .ok (.aload_n 0, 1) := by decide +kernel
theorem dX5_readBehind_139 : decode cX5_readBehind 139 = .ok (.iconst 0, 1) := by decide +kernel
theorem dX5_readBehind_140 : decode cX5_readBehind 140 = .ok (.putfield 38, 3) := by decide +kernel
theorem dX5_readBehind_143 : decode cX5_readBehind 143 = .ok (.aload_n 0, 1) := by decide +kernel
theorem dX5_readBehind_144 : decode cX5_readBehind 144 = .ok (.bipush 45, 2) := by decide +kernel
theorem dX5_readBehind_146 : decode cX5_readBehind 146 = .ok (.aload_n 0, 1) := by decide +kernel
theorem dX5_readBehind_147 : decode cX5_readBehind 147 = .ok (.getfield 45, 3) := by decide +kernel
theorem dX5_readBehind_150 : decode cX5_readBehind 150 = .ok (.iconst (-1), 1) := by decide +kernel
theorem dX5_readBehind_151 : decode cX5_readBehind 151 = .ok (.iconst 0, 1) := by decide +kernel
theorem dX5_readBehind_152 : decode cX5_readBehind 152 = .ok (.invokevirtual 263, 3) := by decide +kernel
theorem dX5_readBehind_155 : decode cX5_readBehind 155 = .ok (.ireturn, 1) := by decide +kernel
theorem dX5_readBehind_156 : decode cX5_readBehind 156 = .ok (.aload_n 0, 1) := by decide +kernel
theorem dX5_readBehind_157 : decode cX5_readBehind 157 = .ok (.aload_n 0, 1) := by decide +kernel
theorem dX5_readBehind_158 : decode cX5_readBehind 158 = .ok (.getfield 45, 3) := by decide +kernel
theorem dX5_readBehind_161 : decode cX5_readBehind 161 = .ok (.invokevirtual 260, 3) := by decide +kernel
theorem dX5_readBehind_164 : decode cX5_readBehind 164 = .ok (.aload_n 0, 1) := by decide +kernel
theorem dX5_readBehind_165 : decode cX5_readBehind 165 = .ok (.iload_n 2, 1) := by decide +kernel
theorem dX5_readBehind_166 : decode cX5_readBehind 166 = .ok (.putfield 42, 3) := by decide +kernel
theorem dX5_readBehind_169 : decode cX5_readBehind 169 = .ok (.bipush 7, 2) := by decide +kernel
theorem dX5_readBehind_171 : decode cX5_readBehind 171 = .ok (.ireturn, 1) := by decide +kernel
theorem dX5_readBehind_172 : decode cX5_readBehind 172 = .ok (.iload_n 2, 1) := by decide +kernel
theorem dX5_readBehind_173 : decode cX5_readBehind 173 = .ok (.bipush 46, 2) := by decide +kernel
theorem dX5_readBehind_175 : decode cX5_readBehind 175 = .ok (.if_icmp .ne 24, 3) := by decide +kernel
theorem dX5_readBehind_178 : decode cX5_readBehind 178 = .ok (.aload_n 0, 1) := by decide +kernel
theorem dX5_readBehind_179 : decode cX5_readBehind 179 = .ok (.bipush 66, 2) := by decide +kernel
theorem dX5_readBehind_181 : decode cX5_readBehind 181 = .ok (.aload_n 0, 1) := by decide +kernel
theorem dX5_readBehind_182 : decode cX5_readBehind 182 = .ok (.getfield 45, 3) := by decide +kernel
theorem dX5_readBehind_185 : decode cX5_readBehind 185 = .ok (.aload_n 0, 1) := by decide +kernel
theorem dX5_readBehind_186 : decode cX5_readBehind 186 = .ok (.getfield 42, 3) := by decide +kernel
theorem dX5_readBehind_189 : decode cX5_readBehind 189 = .ok (.bipush 28, 2) := by decide +kernel
theorem dX5_readBehind_191 : decode cX5_readBehind 191 = .ok (.isub, 1) := by decide +kernel
theorem dX5_readBehind_192 : decode cX5_readBehind 192 = .ok (.iconst 0, 1) := by decide +kernel
theorem dX5_readBehind_193 : decode cX5_readBehind 193 = .ok (.invokevirtual 263, 3) := by decide +kernel
theorem dX5_readBehind_196 : decode cX5_readBehind 196 = .ok (.goto 4, 3) := by decide +kernel
theorem dX5_readBehind_199 : decode cX5_readBehind 199 = .ok (.iconst 0, 1) := by decide +kernel
theorem dX5_readBehind_200 : decode cX5_readBehind 200 = .ok (.ireturn, 1) := by decide +kernel
theorem dX5_readBehind_201 : decode cX5_readBehind 201 = .ok (.iload_n 2, 1) := by decide +kernel
theorem dX5_readBehind_202 : decode cX5_readBehind 202 = .ok (.bipush 45, 2) := by decide +kernel
theorem dX5_readBehind_204 : decode cX5_readBehind 204 = .ok (.if_icmp .ne 17, 3) := by decide +kernel
theorem dX5_readBehind_207 : decode cX5_readBehind 207 = .ok (.aload_n 0, 1) := by decide +kernel
theorem dX5_readBehind_208 : decode cX5_readBehind 208 = .ok (.getfield 35, 3) := by decide +kernel
theorem dX5_readBehind_211 : decode cX5_readBehind 211 = .ok (.bipush 40, 2) := by decide +kernel
theorem dX5_readBehind_213 : decode cX5_readBehind 213 = .ok (.if_icmp .ge 8, 3) := by decide +kernel
theorem dX5_readBehind_216 : decode cX5_readBehind 216 = .ok (.bipush 9, 2) := by decide +kernel
theorem dX5_readBehind_218 : decode cX5_readBehind 218 = .ok (.goto 4, 3) := by decide +kernel
theorem dX5_readBehind_221 : decode cX5_readBehind 221 = .ok (.iconst 0, 1) := by decide +kernel
theorem dX5_readBehind_222 : decode cX5_readBehind 222 = .ok (.ireturn, 1) := by decide +kernel
theorem dX5_readBehind_223 : decode cX5_readBehind 223 = .ok (.aload_n 0, 1) := by decide +kernel
theorem dX5_readBehind_224 : decode cX5_readBehind 224 = .ok (.aload_n 0, 1) := by decide +kernel
theorem dX5_readBehind_225 : decode cX5_readBehind 225 = .ok (.getfield 77, 3) := by decide +kernel
theorem dX5_readBehind_228 : decode cX5_readBehind 228 = .ok (.getfield 114, 3) := by decide +kernel
theorem dX5_readBehind_231 : decode cX5_readBehind 231 = .ok (.putfield 45, 3) := by decide +kernel
theorem dX5_readBehind_234 : decode cX5_readBehind 234 = .ok (.aload_n 0, 1) := by decide +kernel
theorem dX5_readBehind_235 : decode cX5_readBehind 235 = .ok (.aload_n 0, 1) := by decide +kernel
theorem dX5_readBehind_236 : decode cX5_readBehind 236 = .ok (.getfield 77, 3) := by decide +kernel
theorem dX5_readBehind_239 : decode cX5_readBehind 239 = .ok (.getfield 151, 3) := by decide +kernel
theorem dX5_readBehind_242 : decode cX5_readBehind 242 = .ok (.putfield 48, 3) := by decide +kernel
theorem dX5_readBehind_245 : decode cX5_readBehind 245 = .ok (.iload_n 2, 1) := by decide +kernel
theorem dX5_readBehind_246 : decode cX5_readBehind 246 = .ok (.iconst 2, 1) := by decide +kernel
theorem dX5_readBehind_247 : decode cX5_readBehind 247 = .ok (.if_icmp .ne 8, 3) := by decide +kernel
theorem dX5_readBehind_250 : decode cX5_readBehind 250 = .ok (.bipush 10, 2) := by decide +kernel
theorem dX5_readBehind_252 : decode cX5_readBehind 252 = .ok (.goto 4, 3) := by decide +kernel
theorem dX5_readBehind_255 : decode cX5_readBehind 255 = .ok (.iconst 0, 1) := by decide +kernel
theorem dX5_readBehind_256 : decode cX5_readBehind 256 = .ok (.ireturn, 1) := by decide +kernel
theorem dX5_readBehind_257 : decode cX5_readBehind 257 = .ok (.iload_n 2, 1) := by decide +kernel
theorem dX5_readBehind_258 : decode cX5_readBehind 258 = .ok (.bipush 46, 2) := by decide +kernel
theorem dX5_readBehind_260 : decode cX5_readBehind 260 = .ok (.if_icmp .eq 5, 3) := by decide +kernel
theorem dX5_readBehind_263 : decode cX5_readBehind 263 = .ok (.iconst 0, 1) := by decide +kernel
theorem dX5_readBehind_264 : decode cX5_readBehind 264 = .ok (.ireturn, 1) := by decide +kernel
theorem dX5_readBehind_265 : decode cX5_readBehind 265 = .ok (.aload_n 0, 1) := by decide +kernel
theorem dX5_readBehind_266 : decode cX5_readBehind 266 = .ok (.bipush 16, 2) := by decide +kernel
theorem dX5_readBehind_268 : decode cX5_readBehind 268 = .ok (.aload_n 0, 1) := by decide +kernel
theorem dX5_readBehind_269 : decode cX5_readBehind 269 = .ok (.getfield 45, 3) := by decide +kernel
theorem dX5_readBehind_272 : decode cX5_readBehind 272 = .ok (.aload_n 0, 1) := by decide +kernel
theorem dX5_readBehind_273 : decode cX5_readBehind 273 = .ok (.getfield 45, 3) := by decide +kernel
theorem dX5_readBehind_276 : decode cX5_readBehind 276 = .ok (.aload_n 0, 1) := by decide +kernel
theorem dX5_readBehind_277 : decode cX5_readBehind 277 = .ok (.getfield 48, 3) := by decide +kernel
theorem dX5_readBehind_280 : decode cX5_readBehind 280 = .ok (.invokevirtual 273, 3) := by decide +kernel
theorem dX5_readBehind_283 : decode cX5_readBehind 283 = .ok (.iconst 3, 1) := by decide +kernel
theorem dX5_readBehind_284 : decode cX5_readBehind 284 = .ok (.ireturn, 1) := by decide +kernel
abbrev R_X5_readBehind : Room := ({ frames := 2, cells := 0, slots := 0, locals := 48 } : Room)
def b_X5_readBehind_138 (hT_15 : Nat) (gT : Gs) (gT_1 : Gs) (gT_15 : Gs) : Option (Int32 × Gs × Gs) :=
  bnd (f_X5_enter (sI gT 10 (0 : Int32)) (45 : Int32) (gI gT 12) (-1 : Int32) (0 : Int32)) (fun q_7 => some (q_7.1, q_7.2, gT_15))
def f_X5_readBehind (hT_15 : Nat) (gT : Gs) (gT_1 : Gs) (gT_15 : Gs) (x0 : Int32) : Option (Int32 × Gs × Gs) :=
  if x0 = (4 : Int32) then (if (gI gT_1 4) = (47 : Int32) then (bnd (f_X5_enter gT (64 : Int32) (gI gT_1 5) (gI gT 12) (gI gT 13)) (fun q_3 => some (q_3.1, q_3.2, gT_15))) else (bnd (f_X5_addNamed hT_15 (sI gT 10 (0 : Int32)) gT_15 (63 : Int32) (gI gT 12) (gI gT 12) (gI gT 13)) (fun q_1 => some ((3 : Int32), (sI gT 10 (0 : Int32)), q_1)))) else (if x0 = (5 : Int32) then (if (gI gT_1 4) = (45 : Int32) then (bnd (f_X5_enter gT (gI gT 11) (gI gT 12) (-1 : Int32) (0 : Int32)) (fun q_5 => some (q_5.1, q_5.2, gT_15))) else (some ((0 : Int32), gT, gT_15))) else (if x0 = (6 : Int32) then (if (gI gT_1 4) < (28 : Int32) then (b_X5_readBehind_138 hT_15 gT gT_1 gT_15) else (if (gI gT_1 4) ≤ (35 : Int32) then (bnd (f_X5_countNode hT_15 gT gT_15 (gI gT 12)) (fun q_9 => some ((7 : Int32), (sI q_9.1 11 (gI gT_1 4)), q_9.2))) else (b_X5_readBehind_138 hT_15 gT gT_1 gT_15))) else (if x0 = (7 : Int32) then (if (gI gT_1 4) = (46 : Int32) then (bnd (f_X5_enter gT (66 : Int32) (gI gT 12) ((gI gT 11) - (28 : Int32)) (0 : Int32)) (fun q_11 => some (q_11.1, q_11.2, gT_15))) else (some ((0 : Int32), gT, gT_15))) else (if x0 = (8 : Int32) then (if (gI gT_1 4) = (45 : Int32) then (if (40 : Int32) ≤ (gI gT 9) then (some ((0 : Int32), gT, gT_15)) else (some ((9 : Int32), gT, gT_15))) else (some ((0 : Int32), gT, gT_15))) else (if x0 = (9 : Int32) then (if (gI gT_1 4) = (2 : Int32) then (some ((10 : Int32), (sI (sI gT 12 (gI gT_1 5)) 13 (gI gT_1 6)), gT_15)) else (some ((0 : Int32), (sI (sI gT 12 (gI gT_1 5)) 13 (gI gT_1 6)), gT_15))) else (if (gI gT_1 4) = (46 : Int32) then (bnd (f_X5_addNamed hT_15 gT gT_15 (16 : Int32) (gI gT 12) (gI gT 12) (gI gT 13)) (fun q_13 => some ((3 : Int32), gT, q_13))) else (some ((0 : Int32), gT, gT_15))))))))
def S_X5_readBehind_138 (l : Launch) (D : Dx) (hT : Nat) (aT : Nat → Nat) (yT : Nat → ClassId) (aT_1 : Nat → Nat) (yT_1 : Nat → ClassId) (hT_15 : Nat) (aT_15 : Nat → Nat) (yT_15 : Nat → ClassId) (fn : Gs → Gs → Gs → Option (Int32 × Gs × Gs)) : Prop :=
  ∀ {p : Program} {e : Env} {s : State} {m : MethodId} {args : Array Value} {below : List Frame} {meth : Method} {c : Code} {H : Heap} {locs : List Loc} {A : Nat → Prop} {ls : Array Slot} {gT : Gs} {gT_1 : Gs} {gT_15 : Gs} {q : Int32 × Gs × Gs}, Cx p s m args meth c cX5_readBehind (some .int) 3 RX5 lw_all → Hx D (tX5 yT ++ (tX7 yT_1 ++ (tX0 yT_15))) A s H locs (wX5 hT aT yT gT ++ (wX7 (aT 1) aT_1 yT_1 gT_1 ++ (wX0 hT_15 aT_15 yT_15 gT_15))) → lv_has ls 3 [(0, .ref hT)] → fn gT gT_1 gT_15 = some q → W p l e R_X5_readBehind s m args below meth c H locs 0 0 (MQ below (QI D A (wX5 hT aT yT q.2.1 ++ (wX7 (aT 1) aT_1 yT_1 gT_1 ++ (wX0 hT_15 aT_15 yT_15 q.2.2))) q.1) args s 0 0 A) (F0 m 138 ls [])
set_option maxHeartbeats 4000000 in
set_option maxRecDepth 100000 in
theorem k_X5_readBehind_138 (l : Launch) (D : Dx) (hT : Nat) (aT : Nat → Nat) (yT : Nat → ClassId) (aT_1 : Nat → Nat) (yT_1 : Nat → ClassId) (hT_15 : Nat) (aT_15 : Nat → Nat) (yT_15 : Nat → ClassId) : S_X5_readBehind_138 l D hT aT yT aT_1 yT_1 hT_15 aT_15 yT_15 (b_X5_readBehind_138 hT_15) := by
  intro p e s m args below meth c H locs A ls gT gT_1 gT_15 q C X hl hF
  obtain ⟨hx, hb, hr, hml, hown, hts, hlk⟩ := id C
  unfold b_X5_readBehind_138 at hF
  refine lv_aload_n hx hb dX5_readBehind_138 rfl (lv_at hl 0 rfl) ?_
  refine lv_iconst (v := (0 : Int32)) hx hb dX5_readBehind_139 (by decide) ?_
  refine va_put (D := D.1) (ci := 5) (v := .int (0 : Int32)) (ty := .boolean) (C := RX5) (T := TX5) (N := 18) hx hb hts wi_X5 tyX5 tyX5_ok nmX5 hown X.1 X.2.1 X.2.2.1 X.2.2.2.1 0 rfl rfl 10 (by decide) (hts _ q3_61) (fun _ h9 => h9) rfl (by decide +kernel) rfl rfl (by rw [List.length_map, List.length_range]; decide) dX5_readBehind_140 (fun H locs hP hD hS => ?_)
  have X : Hx D (tX5 yT ++ (tX7 yT_1 ++ (tX0 yT_15))) A s H locs (wX5 hT aT yT (sI gT 10 (0 : Int32)) ++ (wX7 (aT 1) aT_1 yT_1 gT_1 ++ (wX0 hT_15 aT_15 yT_15 gT_15))) := Hx_set X (set_l (by rw [wG_len (m := 5) rfl]; decide) (wG_sI (k := 10) rfl)) hP hD hS
  refine lv_aload_n hx hb dX5_readBehind_143 rfl (lv_at hl 0 rfl) ?_
  refine lv_bipush (v := (45 : Int32)) hx hb dX5_readBehind_144 (by decide) ?_
  refine lv_aload_n hx hb dX5_readBehind_146 rfl (lv_at hl 0 rfl) ?_
  refine va_get (D := D.1) (ci := 5) (v := .int (gI gT 12)) (C := RX5) (T := TX5) (N := 18) hx hb hts wi_X5 hown X.1 X.2.1 0 rfl rfl 12 (by decide) (hts _ q3_63) (fun _ h9 => h9) (fl_get (by decide)) dX5_readBehind_147 ?_
  refine lv_iconst (v := (-1 : Int32)) hx hb dX5_readBehind_150 (by decide) ?_
  refine lv_iconst (v := (0 : Int32)) hx hb dX5_readBehind_151 (by decide) ?_
  obtain ⟨q_7, hc_8, hF⟩ := bnd_some hF
  refine cV_i (As := [.int (45 : Int32), .int (gI gT 12), .int (-1 : Int32), .int (0 : Int32)]) (rest := []) C X (c_X5_enter l D hT aT yT (sI gT 10 (0 : Int32)) (45 : Int32) (gI gT 12) (-1 : Int32) (0 : Int32) q_7 hc_8 _) (cwV 4 hts (good_V q4_125 q4_127 q0_24 q1_10 q4_128) rfl rfl rfl (by decide +kernel) ⟨Nat.le_of_ble_eq_true rfl, Nat.le_of_ble_eq_true rfl⟩) (va_recv X.1 X.2.1 (ci := 5) (q0 := 0) rfl rfl) (X.1.sub (tys' := tX5 yT) [0, 1, 2, 3] rfl) (X.2.1.sub (ws' := wX5 hT aT yT (sI gT 10 (0 : Int32))) [0, 1, 2, 3, 4] rfl) (X.2.2.1.sub (ws' := wX5 hT aT yT (sI gT 10 (0 : Int32))) [0, 1, 2, 3, 4] (by decide) rfl) (free_of (wC := wX5 hT aT yT (sI gT 10 (0 : Int32))) (isC := [0, 1, 2, 3, 4]) X rfl) hl.1 rfl rfl (Nat.le_of_ble_eq_true rfl) dX5_readBehind_152 ⟨Nat.le_of_ble_eq_true rfl, Nat.le_of_ble_eq_true rfl⟩ (fun t H1 locs1 ht hB hk hS => ?_)
  have X : Hx D (tX5 yT ++ (tX7 yT_1 ++ (tX0 yT_15))) A s H1 locs1 (wX5 hT aT yT q_7.2 ++ (wX7 (aT 1) aT_1 yT_1 gT_1 ++ (wX0 hT_15 aT_15 yT_15 gT_15))) := Hx_after (isC := [0, 1, 2, 3, 4]) (isR := [5, 6, 7, 8, 9, 10, 11, 12, 13, 14, 15, 16, 17, 18, 19, 20, 21]) (pm := [17, 18, 19, 20, 21, 0, 1, 2, 3, 4, 5, 6, 7, 8, 9, 10, 11, 12, 13, 14, 15, 16]) (wr := wX7 (aT 1) aT_1 yT_1 gT_1 ++ (wX0 hT_15 aT_15 yT_15 gT_15)) X ⟨rfl, rfl, by decide, by decide, rfl, by decide⟩ ht hB hk hS
  clear hk hS ht hB
  generalize H1 = H at X ⊢
  generalize locs1 = locs at X ⊢
  have hq := Option.some.inj hF
  subst hq
  exact rt_i C X dX5_readBehind_155
set_option maxHeartbeats 4000000 in
set_option maxRecDepth 100000 in
theorem c_X5_readBehind (l : Launch) (D : Dx) (hT : Nat) (aT : Nat → Nat) (yT : Nat → ClassId) (aT_1 : Nat → Nat) (yT_1 : Nat → ClassId) (hT_15 : Nat) (aT_15 : Nat → Nat) (yT_15 : Nat → ClassId) (gT : Gs) (gT_1 : Gs) (gT_15 : Gs) (x0 : Int32) (q : Int32 × Gs × Gs) (hF : f_X5_readBehind hT_15 gT gT_1 gT_15 x0 = some q) (sz : Nat) : Met l yX5_readBehind (ws_ yX5_readBehind cX5_readBehind 3 (some .int)) R_X5_readBehind (PC D (tX5 yT ++ (tX7 yT_1 ++ (tX0 yT_15))) [.ref hT, .int x0] (wX5 hT aT yT gT ++ (wX7 (aT 1) aT_1 yT_1 gT_1 ++ (wX0 hT_15 aT_15 yT_15 gT_15))) sz) (QI D (va_A (wX5 hT aT yT gT ++ (wX7 (aT 1) aT_1 yT_1 gT_1 ++ (wX0 hT_15 aT_15 yT_15 gT_15))) sz) (wX5 hT aT yT q.2.1 ++ (wX7 (aT 1) aT_1 yT_1 gT_1 ++ (wX0 hT_15 aT_15 yT_15 q.2.2))) q.1) 0 0 (va_A (wX5 hT aT yT gT ++ (wX7 (aT 1) aT_1 yT_1 gT_1 ++ (wX0 hT_15 aT_15 yT_15 gT_15))) sz) := by
  refine Met.ofW (cc := cX5_readBehind) (maxL := 3) (ret := (some .int)) (by decide) rfl ?_
  intro p e s m args below meth c s₁ B hml hv
  obtain ⟨rfl, hsz, hP, hK, hD, hN⟩ := hv
  subst hsz
  have C : Cx p s m _ meth c cX5_readBehind (some .int) 3 RX5 lw_all := Cx_of B hml
  have X := Hx_start hP hK hD hN
  obtain ⟨hx, hb, hr, -, hown, hts, hlk⟩ := id C
  generalize va_A (wX5 hT aT yT gT ++ (wX7 (aT 1) aT_1 yT_1 gT_1 ++ (wX0 hT_15 aT_15 yT_15 gT_15))) s.heap.size = A at X ⊢
  have hl := lv_entry ([.ref hT, .int x0]) (n := 3) (Nat.le_of_ble_eq_true rfl)
  rw [lg_entry_eq]
  generalize (lg_sl ([.ref hT, .int x0]) ++ List.replicate (3 - (lg_sl ([.ref hT, .int x0])).length) Slot.unset).toArray = ls at hl ⊢
  have hl : lv_has ls 3 [(0, .ref hT), (1, .int x0)] := hl
  unfold f_X5_readBehind at hF
  refine lv_aload_n hx hb dX5_readBehind_0 rfl (lv_at hl 0 rfl) ?_
  refine va_get (D := D.1) (ci := 5) (v := .ref (aT 1)) (C := RX5) (T := TX5) (N := 18) hx hb hts wi_X5 hown X.1 X.2.1 0 rfl rfl 1 (by decide) (hts _ q3_52) (fun _ h9 => h9) (fl_get (by decide)) dX5_readBehind_1 ?_
  refine va_getN (D := D.1) (ci := 7) (v := .int (gI gT_1 4)) (C := RX7) (T := TX7) (N := 12) hx hb hts wi_X7 hown X.1 X.2.1 5 rfl rfl 4 (by decide) (X.2.2.2.2.2.1.use q3_0 rfl) (fun _ h9 => h9) (fl_get (by decide)) dX5_readBehind_4 ?_
  refine lv_istore_n (lv' := [(2, .int (gI gT_1 4)), (0, .ref hT), (1, .int x0)]) hx hb dX5_readBehind_7 rfl hl (by decide) rfl (fun ls hl => ?_)
  refine lv_iload_n hx hb dX5_readBehind_8 rfl (lv_at hl 2 rfl) ?_
  by_cases c4 : x0 = (4 : Int32)
  · replace hF := iT c4 hF
    refine lv_tableIn (tgt := 48) (off := 39) hx hb dX5_readBehind_9 (by rw [c4]; decide) (by rw [c4]; decide) (by rw [c4]; rfl) (by decide) ?_
    refine lv_iload_n hx hb dX5_readBehind_48 rfl (lv_at hl 0 rfl) ?_
    refine lv_bipush (v := (47 : Int32)) hx hb dX5_readBehind_49 (by decide) ?_
    refine lv_icmp_ne (tgt := 76) hx hb dX5_readBehind_51 (by decide) (fun c => ?_) (fun c => ?_)
    · replace hF := iF c hF
      refine lv_aload_n hx hb dX5_readBehind_76 rfl (lv_at hl 1 rfl) ?_
      refine lv_iconst (v := (0 : Int32)) hx hb dX5_readBehind_77 (by decide) ?_
      refine va_put (D := D.1) (ci := 5) (v := .int (0 : Int32)) (ty := .boolean) (C := RX5) (T := TX5) (N := 18) hx hb hts wi_X5 tyX5 tyX5_ok nmX5 hown X.1 X.2.1 X.2.2.1 X.2.2.2.1 0 rfl rfl 10 (by decide) (hts _ q3_61) (fun _ h9 => h9) rfl (by decide +kernel) rfl rfl (by rw [List.length_map, List.length_range]; decide) dX5_readBehind_78 (fun H locs hP hD hS => ?_)
      have X : Hx D (tX5 yT ++ (tX7 yT_1 ++ (tX0 yT_15))) A s H locs (wX5 hT aT yT (sI gT 10 (0 : Int32)) ++ (wX7 (aT 1) aT_1 yT_1 gT_1 ++ (wX0 hT_15 aT_15 yT_15 gT_15))) := Hx_set X (set_l (by rw [wG_len (m := 5) rfl]; decide) (wG_sI (k := 10) rfl)) hP hD hS
      refine lv_aload_n hx hb dX5_readBehind_81 rfl (lv_at hl 1 rfl) ?_
      refine lv_bipush (v := (63 : Int32)) hx hb dX5_readBehind_82 (by decide) ?_
      refine lv_aload_n hx hb dX5_readBehind_84 rfl (lv_at hl 1 rfl) ?_
      refine va_get (D := D.1) (ci := 5) (v := .int (gI gT 12)) (C := RX5) (T := TX5) (N := 18) hx hb hts wi_X5 hown X.1 X.2.1 0 rfl rfl 12 (by decide) (hts _ q3_63) (fun _ h9 => h9) (fl_get (by decide)) dX5_readBehind_85 ?_
      refine lv_aload_n hx hb dX5_readBehind_88 rfl (lv_at hl 1 rfl) ?_
      refine va_get (D := D.1) (ci := 5) (v := .int (gI gT 12)) (C := RX5) (T := TX5) (N := 18) hx hb hts wi_X5 hown X.1 X.2.1 0 rfl rfl 12 (by decide) (hts _ q3_63) (fun _ h9 => h9) (fl_get (by decide)) dX5_readBehind_89 ?_
      refine lv_aload_n hx hb dX5_readBehind_92 rfl (lv_at hl 1 rfl) ?_
      refine va_get (D := D.1) (ci := 5) (v := .int (gI gT 13)) (C := RX5) (T := TX5) (N := 18) hx hb hts wi_X5 hown X.1 X.2.1 0 rfl rfl 13 (by decide) (hts _ q3_64) (fun _ h9 => h9) (fl_get (by decide)) dX5_readBehind_93 ?_
      obtain ⟨q_1, hc_2, hF⟩ := bnd_some hF
      refine cV_v (As := [.int (63 : Int32), .int (gI gT 12), .int (gI gT 12), .int (gI gT 13)]) (rest := []) C X (c_X5_addNamed l D hT aT yT hT_15 aT_15 yT_15 (sI gT 10 (0 : Int32)) gT_15 (63 : Int32) (gI gT 12) (gI gT 12) (gI gT 13) q_1 hc_2 _) (cwV 4 hts (good_V q4_148 q4_150 q0_29 q1_10 q4_151) rfl rfl rfl (by decide +kernel) ⟨Nat.le_of_ble_eq_true rfl, Nat.le_of_ble_eq_true rfl⟩) (va_recv X.1 X.2.1 (ci := 5) (q0 := 0) rfl rfl) (X.1.sub (tys' := tX5 yT ++ (tX0 yT_15)) [0, 1, 2, 3, 4, 5, 6, 7, 8, 9, 10, 11, 12, 13, 14, 15, 16, 17, 18] rfl) (X.2.1.sub (ws' := wX5 hT aT yT (sI gT 10 (0 : Int32)) ++ (wX0 hT_15 aT_15 yT_15 gT_15)) [0, 1, 2, 3, 4, 6, 7, 8, 9, 10, 11, 12, 13, 14, 15, 16, 17, 18, 19, 20, 21] rfl) (X.2.2.1.sub (ws' := wX5 hT aT yT (sI gT 10 (0 : Int32)) ++ (wX0 hT_15 aT_15 yT_15 gT_15)) [0, 1, 2, 3, 4, 6, 7, 8, 9, 10, 11, 12, 13, 14, 15, 16, 17, 18, 19, 20, 21] (by decide) rfl) (free_of (wC := wX5 hT aT yT (sI gT 10 (0 : Int32)) ++ (wX0 hT_15 aT_15 yT_15 gT_15)) (isC := [0, 1, 2, 3, 4, 6, 7, 8, 9, 10, 11, 12, 13, 14, 15, 16, 17, 18, 19, 20, 21]) X rfl) hl.1 rfl rfl (Nat.le_of_ble_eq_true rfl) dX5_readBehind_96 ⟨Nat.le_of_ble_eq_true rfl, Nat.le_of_ble_eq_true rfl⟩ (fun t H1 locs1 ht hB hk hS => ?_)
      have X : Hx D (tX5 yT ++ (tX7 yT_1 ++ (tX0 yT_15))) A s H1 locs1 (wX5 hT aT yT (sI gT 10 (0 : Int32)) ++ (wX7 (aT 1) aT_1 yT_1 gT_1 ++ (wX0 hT_15 aT_15 yT_15 q_1))) := Hx_after (isC := [0, 1, 2, 3, 4, 6, 7, 8, 9, 10, 11, 12, 13, 14, 15, 16, 17, 18, 19, 20, 21]) (isR := [5]) (pm := [1, 2, 3, 4, 5, 0, 6, 7, 8, 9, 10, 11, 12, 13, 14, 15, 16, 17, 18, 19, 20, 21]) (wr := wX7 (aT 1) aT_1 yT_1 gT_1) X ⟨rfl, rfl, by decide, by decide, rfl, by decide⟩ ht hB hk hS
      clear hk hS ht hB
      generalize H1 = H at X ⊢
      generalize locs1 = locs at X ⊢
      refine lv_iconst (v := (3 : Int32)) hx hb dX5_readBehind_99 (by decide) ?_
      have hq := Option.some.inj hF
      subst hq
      exact rt_i C X dX5_readBehind_100
    · replace hF := iT c hF
      refine lv_aload_n hx hb dX5_readBehind_54 rfl (lv_at hl 1 rfl) ?_
      refine lv_bipush (v := (64 : Int32)) hx hb dX5_readBehind_55 (by decide) ?_
      refine lv_aload_n hx hb dX5_readBehind_57 rfl (lv_at hl 1 rfl) ?_
      refine va_get (D := D.1) (ci := 5) (v := .ref (aT 1)) (C := RX5) (T := TX5) (N := 18) hx hb hts wi_X5 hown X.1 X.2.1 0 rfl rfl 1 (by decide) (hts _ q3_52) (fun _ h9 => h9) (fl_get (by decide)) dX5_readBehind_58 ?_
      refine va_getN (D := D.1) (ci := 7) (v := .int (gI gT_1 5)) (C := RX7) (T := TX7) (N := 12) hx hb hts wi_X7 hown X.1 X.2.1 5 rfl rfl 5 (by decide) (X.2.2.2.2.2.1.use q3_2 rfl) (fun _ h9 => h9) (fl_get (by decide)) dX5_readBehind_61 ?_
      refine lv_aload_n hx hb dX5_readBehind_64 rfl (lv_at hl 1 rfl) ?_
      refine va_get (D := D.1) (ci := 5) (v := .int (gI gT 12)) (C := RX5) (T := TX5) (N := 18) hx hb hts wi_X5 hown X.1 X.2.1 0 rfl rfl 12 (by decide) (hts _ q3_63) (fun _ h9 => h9) (fl_get (by decide)) dX5_readBehind_65 ?_
      refine lv_aload_n hx hb dX5_readBehind_68 rfl (lv_at hl 1 rfl) ?_
      refine va_get (D := D.1) (ci := 5) (v := .int (gI gT 13)) (C := RX5) (T := TX5) (N := 18) hx hb hts wi_X5 hown X.1 X.2.1 0 rfl rfl 13 (by decide) (hts _ q3_64) (fun _ h9 => h9) (fl_get (by decide)) dX5_readBehind_69 ?_
      obtain ⟨q_3, hc_4, hF⟩ := bnd_some hF
      refine cV_i (As := [.int (64 : Int32), .int (gI gT_1 5), .int (gI gT 12), .int (gI gT 13)]) (rest := []) C X (c_X5_enter l D hT aT yT gT (64 : Int32) (gI gT_1 5) (gI gT 12) (gI gT 13) q_3 hc_4 _) (cwV 4 hts (good_V q4_125 q4_127 q0_24 q1_10 q4_128) rfl rfl rfl (by decide +kernel) ⟨Nat.le_of_ble_eq_true rfl, Nat.le_of_ble_eq_true rfl⟩) (va_recv X.1 X.2.1 (ci := 5) (q0 := 0) rfl rfl) (X.1.sub (tys' := tX5 yT) [0, 1, 2, 3] rfl) (X.2.1.sub (ws' := wX5 hT aT yT gT) [0, 1, 2, 3, 4] rfl) (X.2.2.1.sub (ws' := wX5 hT aT yT gT) [0, 1, 2, 3, 4] (by decide) rfl) (free_of (wC := wX5 hT aT yT gT) (isC := [0, 1, 2, 3, 4]) X rfl) hl.1 rfl rfl (Nat.le_of_ble_eq_true rfl) dX5_readBehind_72 ⟨Nat.le_of_ble_eq_true rfl, Nat.le_of_ble_eq_true rfl⟩ (fun t H1 locs1 ht hB hk hS => ?_)
      have X : Hx D (tX5 yT ++ (tX7 yT_1 ++ (tX0 yT_15))) A s H1 locs1 (wX5 hT aT yT q_3.2 ++ (wX7 (aT 1) aT_1 yT_1 gT_1 ++ (wX0 hT_15 aT_15 yT_15 gT_15))) := Hx_after (isC := [0, 1, 2, 3, 4]) (isR := [5, 6, 7, 8, 9, 10, 11, 12, 13, 14, 15, 16, 17, 18, 19, 20, 21]) (pm := [17, 18, 19, 20, 21, 0, 1, 2, 3, 4, 5, 6, 7, 8, 9, 10, 11, 12, 13, 14, 15, 16]) (wr := wX7 (aT 1) aT_1 yT_1 gT_1 ++ (wX0 hT_15 aT_15 yT_15 gT_15)) X ⟨rfl, rfl, by decide, by decide, rfl, by decide⟩ ht hB hk hS
      clear hk hS ht hB
      generalize H1 = H at X ⊢
      generalize locs1 = locs at X ⊢
      have hq := Option.some.inj hF
      subst hq
      exact rt_i C X dX5_readBehind_75
  · replace hF := iF c4 hF
    by_cases c5 : x0 = (5 : Int32)
    · replace hF := iT c5 hF
      refine lv_tableIn (tgt := 101) (off := 92) hx hb dX5_readBehind_9 (by rw [c5]; decide) (by rw [c5]; decide) (by rw [c5]; rfl) (by decide) ?_
      refine lv_iload_n hx hb dX5_readBehind_101 rfl (lv_at hl 0 rfl) ?_
      refine lv_bipush (v := (45 : Int32)) hx hb dX5_readBehind_102 (by decide) ?_
      refine lv_icmp_ne (tgt := 124) hx hb dX5_readBehind_104 (by decide) (fun c => ?_) (fun c => ?_)
      · replace hF := iF c hF
        refine lv_iconst (v := (0 : Int32)) hx hb dX5_readBehind_124 (by decide) ?_
        have hq := Option.some.inj hF
        subst hq
        exact rt_i C X dX5_readBehind_125
      · replace hF := iT c hF
        refine lv_aload_n hx hb dX5_readBehind_107 rfl (lv_at hl 1 rfl) ?_
        refine lv_aload_n hx hb dX5_readBehind_108 rfl (lv_at hl 1 rfl) ?_
        refine va_get (D := D.1) (ci := 5) (v := .int (gI gT 11)) (C := RX5) (T := TX5) (N := 18) hx hb hts wi_X5 hown X.1 X.2.1 0 rfl rfl 11 (by decide) (hts _ q3_62) (fun _ h9 => h9) (fl_get (by decide)) dX5_readBehind_109 ?_
        refine lv_aload_n hx hb dX5_readBehind_112 rfl (lv_at hl 1 rfl) ?_
        refine va_get (D := D.1) (ci := 5) (v := .int (gI gT 12)) (C := RX5) (T := TX5) (N := 18) hx hb hts wi_X5 hown X.1 X.2.1 0 rfl rfl 12 (by decide) (hts _ q3_63) (fun _ h9 => h9) (fl_get (by decide)) dX5_readBehind_113 ?_
        refine lv_iconst (v := (-1 : Int32)) hx hb dX5_readBehind_116 (by decide) ?_
        refine lv_iconst (v := (0 : Int32)) hx hb dX5_readBehind_117 (by decide) ?_
        obtain ⟨q_5, hc_6, hF⟩ := bnd_some hF
        refine cV_i (As := [.int (gI gT 11), .int (gI gT 12), .int (-1 : Int32), .int (0 : Int32)]) (rest := []) C X (c_X5_enter l D hT aT yT gT (gI gT 11) (gI gT 12) (-1 : Int32) (0 : Int32) q_5 hc_6 _) (cwV 4 hts (good_V q4_125 q4_127 q0_24 q1_10 q4_128) rfl rfl rfl (by decide +kernel) ⟨Nat.le_of_ble_eq_true rfl, Nat.le_of_ble_eq_true rfl⟩) (va_recv X.1 X.2.1 (ci := 5) (q0 := 0) rfl rfl) (X.1.sub (tys' := tX5 yT) [0, 1, 2, 3] rfl) (X.2.1.sub (ws' := wX5 hT aT yT gT) [0, 1, 2, 3, 4] rfl) (X.2.2.1.sub (ws' := wX5 hT aT yT gT) [0, 1, 2, 3, 4] (by decide) rfl) (free_of (wC := wX5 hT aT yT gT) (isC := [0, 1, 2, 3, 4]) X rfl) hl.1 rfl rfl (Nat.le_of_ble_eq_true rfl) dX5_readBehind_118 ⟨Nat.le_of_ble_eq_true rfl, Nat.le_of_ble_eq_true rfl⟩ (fun t H1 locs1 ht hB hk hS => ?_)
        have X : Hx D (tX5 yT ++ (tX7 yT_1 ++ (tX0 yT_15))) A s H1 locs1 (wX5 hT aT yT q_5.2 ++ (wX7 (aT 1) aT_1 yT_1 gT_1 ++ (wX0 hT_15 aT_15 yT_15 gT_15))) := Hx_after (isC := [0, 1, 2, 3, 4]) (isR := [5, 6, 7, 8, 9, 10, 11, 12, 13, 14, 15, 16, 17, 18, 19, 20, 21]) (pm := [17, 18, 19, 20, 21, 0, 1, 2, 3, 4, 5, 6, 7, 8, 9, 10, 11, 12, 13, 14, 15, 16]) (wr := wX7 (aT 1) aT_1 yT_1 gT_1 ++ (wX0 hT_15 aT_15 yT_15 gT_15)) X ⟨rfl, rfl, by decide, by decide, rfl, by decide⟩ ht hB hk hS
        clear hk hS ht hB
        generalize H1 = H at X ⊢
        generalize locs1 = locs at X ⊢
        refine lv_goto (tgt := 125) hx hb dX5_readBehind_121 (by decide) ?_
        have hq := Option.some.inj hF
        subst hq
        exact rt_i C X dX5_readBehind_125
    · replace hF := iF c5 hF
      by_cases c6 : x0 = (6 : Int32)
      · replace hF := iT c6 hF
        refine lv_tableIn (tgt := 126) (off := 117) hx hb dX5_readBehind_9 (by rw [c6]; decide) (by rw [c6]; decide) (by rw [c6]; rfl) (by decide) ?_
        refine lv_iload_n hx hb dX5_readBehind_126 rfl (lv_at hl 0 rfl) ?_
        refine lv_bipush (v := (28 : Int32)) hx hb dX5_readBehind_127 (by decide) ?_
        refine lv_icmp_lt (tgt := 138) hx hb dX5_readBehind_129 (by decide) (fun c => ?_) (fun c => ?_)
        · replace hF := iT c hF
          exact (k_X5_readBehind_138 l D hT aT yT aT_1 yT_1 hT_15 aT_15 yT_15) C X (lv_sub hl [1] rfl) hF
        · replace hF := iF c hF
          refine lv_iload_n hx hb dX5_readBehind_132 rfl (lv_at hl 0 rfl) ?_
          refine lv_bipush (v := (35 : Int32)) hx hb dX5_readBehind_133 (by decide) ?_
          refine lv_icmp_le (tgt := 156) hx hb dX5_readBehind_135 (by decide) (fun c => ?_) (fun c => ?_)
          · replace hF := iT c hF
            refine lv_aload_n hx hb dX5_readBehind_156 rfl (lv_at hl 1 rfl) ?_
            refine lv_aload_n hx hb dX5_readBehind_157 rfl (lv_at hl 1 rfl) ?_
            refine va_get (D := D.1) (ci := 5) (v := .int (gI gT 12)) (C := RX5) (T := TX5) (N := 18) hx hb hts wi_X5 hown X.1 X.2.1 0 rfl rfl 12 (by decide) (hts _ q3_63) (fun _ h9 => h9) (fl_get (by decide)) dX5_readBehind_158 ?_
            obtain ⟨q_9, hc_10, hF⟩ := bnd_some hF
            refine cV_v (As := [.int (gI gT 12)]) (rest := []) C X (c_X5_countNode l D hT aT yT hT_15 aT_15 yT_15 gT gT_15 (gI gT 12) q_9 hc_10 _) (cwV 1 hts (good_V q4_113 q4_115 q0_21 q1_10 q4_116) rfl rfl rfl (by decide +kernel) ⟨Nat.le_of_ble_eq_true rfl, Nat.le_of_ble_eq_true rfl⟩) (va_recv X.1 X.2.1 (ci := 5) (q0 := 0) rfl rfl) (X.1.sub (tys' := tX5 yT ++ (tX0 yT_15)) [0, 1, 2, 3, 4, 5, 6, 7, 8, 9, 10, 11, 12, 13, 14, 15, 16, 17, 18] rfl) (X.2.1.sub (ws' := wX5 hT aT yT gT ++ (wX0 hT_15 aT_15 yT_15 gT_15)) [0, 1, 2, 3, 4, 6, 7, 8, 9, 10, 11, 12, 13, 14, 15, 16, 17, 18, 19, 20, 21] rfl) (X.2.2.1.sub (ws' := wX5 hT aT yT gT ++ (wX0 hT_15 aT_15 yT_15 gT_15)) [0, 1, 2, 3, 4, 6, 7, 8, 9, 10, 11, 12, 13, 14, 15, 16, 17, 18, 19, 20, 21] (by decide) rfl) (free_of (wC := wX5 hT aT yT gT ++ (wX0 hT_15 aT_15 yT_15 gT_15)) (isC := [0, 1, 2, 3, 4, 6, 7, 8, 9, 10, 11, 12, 13, 14, 15, 16, 17, 18, 19, 20, 21]) X rfl) hl.1 rfl rfl (Nat.le_of_ble_eq_true rfl) dX5_readBehind_161 ⟨Nat.le_of_ble_eq_true rfl, Nat.le_of_ble_eq_true rfl⟩ (fun t H1 locs1 ht hB hk hS => ?_)
            have X : Hx D (tX5 yT ++ (tX7 yT_1 ++ (tX0 yT_15))) A s H1 locs1 (wX5 hT aT yT q_9.1 ++ (wX7 (aT 1) aT_1 yT_1 gT_1 ++ (wX0 hT_15 aT_15 yT_15 q_9.2))) := Hx_after (isC := [0, 1, 2, 3, 4, 6, 7, 8, 9, 10, 11, 12, 13, 14, 15, 16, 17, 18, 19, 20, 21]) (isR := [5]) (pm := [1, 2, 3, 4, 5, 0, 6, 7, 8, 9, 10, 11, 12, 13, 14, 15, 16, 17, 18, 19, 20, 21]) (wr := wX7 (aT 1) aT_1 yT_1 gT_1) X ⟨rfl, rfl, by decide, by decide, rfl, by decide⟩ ht hB hk hS
            clear hk hS ht hB
            generalize H1 = H at X ⊢
            generalize locs1 = locs at X ⊢
            refine lv_aload_n hx hb dX5_readBehind_164 rfl (lv_at hl 1 rfl) ?_
            refine lv_iload_n hx hb dX5_readBehind_165 rfl (lv_at hl 0 rfl) ?_
            refine va_put (D := D.1) (ci := 5) (v := .int (gI gT_1 4)) (ty := .int) (C := RX5) (T := TX5) (N := 18) hx hb hts wi_X5 tyX5 tyX5_ok nmX5 hown X.1 X.2.1 X.2.2.1 X.2.2.2.1 0 rfl rfl 11 (by decide) (hts _ q3_62) (fun _ h9 => h9) rfl (by decide +kernel) rfl rfl (by rw [List.length_map, List.length_range]; decide) dX5_readBehind_166 (fun H locs hP hD hS => ?_)
            have X : Hx D (tX5 yT ++ (tX7 yT_1 ++ (tX0 yT_15))) A s H locs (wX5 hT aT yT (sI q_9.1 11 (gI gT_1 4)) ++ (wX7 (aT 1) aT_1 yT_1 gT_1 ++ (wX0 hT_15 aT_15 yT_15 q_9.2))) := Hx_set X (set_l (by rw [wG_len (m := 5) rfl]; decide) (wG_sI (k := 11) rfl)) hP hD hS
            refine lv_bipush (v := (7 : Int32)) hx hb dX5_readBehind_169 (by decide) ?_
            have hq := Option.some.inj hF
            subst hq
            exact rt_i C X dX5_readBehind_171
          · replace hF := iF c hF
            exact (k_X5_readBehind_138 l D hT aT yT aT_1 yT_1 hT_15 aT_15 yT_15) C X (lv_sub hl [1] rfl) hF
      · replace hF := iF c6 hF
        by_cases c7 : x0 = (7 : Int32)
        · replace hF := iT c7 hF
          refine lv_tableIn (tgt := 172) (off := 163) hx hb dX5_readBehind_9 (by rw [c7]; decide) (by rw [c7]; decide) (by rw [c7]; rfl) (by decide) ?_
          refine lv_iload_n hx hb dX5_readBehind_172 rfl (lv_at hl 0 rfl) ?_
          refine lv_bipush (v := (46 : Int32)) hx hb dX5_readBehind_173 (by decide) ?_
          refine lv_icmp_ne (tgt := 199) hx hb dX5_readBehind_175 (by decide) (fun c => ?_) (fun c => ?_)
          · replace hF := iF c hF
            refine lv_iconst (v := (0 : Int32)) hx hb dX5_readBehind_199 (by decide) ?_
            have hq := Option.some.inj hF
            subst hq
            exact rt_i C X dX5_readBehind_200
          · replace hF := iT c hF
            refine lv_aload_n hx hb dX5_readBehind_178 rfl (lv_at hl 1 rfl) ?_
            refine lv_bipush (v := (66 : Int32)) hx hb dX5_readBehind_179 (by decide) ?_
            refine lv_aload_n hx hb dX5_readBehind_181 rfl (lv_at hl 1 rfl) ?_
            refine va_get (D := D.1) (ci := 5) (v := .int (gI gT 12)) (C := RX5) (T := TX5) (N := 18) hx hb hts wi_X5 hown X.1 X.2.1 0 rfl rfl 12 (by decide) (hts _ q3_63) (fun _ h9 => h9) (fl_get (by decide)) dX5_readBehind_182 ?_
            refine lv_aload_n hx hb dX5_readBehind_185 rfl (lv_at hl 1 rfl) ?_
            refine va_get (D := D.1) (ci := 5) (v := .int (gI gT 11)) (C := RX5) (T := TX5) (N := 18) hx hb hts wi_X5 hown X.1 X.2.1 0 rfl rfl 11 (by decide) (hts _ q3_62) (fun _ h9 => h9) (fl_get (by decide)) dX5_readBehind_186 ?_
            refine lv_bipush (v := (28 : Int32)) hx hb dX5_readBehind_189 (by decide) ?_
            refine lv_isub hx hb dX5_readBehind_191 ?_
            refine lv_iconst (v := (0 : Int32)) hx hb dX5_readBehind_192 (by decide) ?_
            obtain ⟨q_11, hc_12, hF⟩ := bnd_some hF
            refine cV_i (As := [.int (66 : Int32), .int (gI gT 12), .int ((gI gT 11) - (28 : Int32)), .int (0 : Int32)]) (rest := []) C X (c_X5_enter l D hT aT yT gT (66 : Int32) (gI gT 12) ((gI gT 11) - (28 : Int32)) (0 : Int32) q_11 hc_12 _) (cwV 4 hts (good_V q4_125 q4_127 q0_24 q1_10 q4_128) rfl rfl rfl (by decide +kernel) ⟨Nat.le_of_ble_eq_true rfl, Nat.le_of_ble_eq_true rfl⟩) (va_recv X.1 X.2.1 (ci := 5) (q0 := 0) rfl rfl) (X.1.sub (tys' := tX5 yT) [0, 1, 2, 3] rfl) (X.2.1.sub (ws' := wX5 hT aT yT gT) [0, 1, 2, 3, 4] rfl) (X.2.2.1.sub (ws' := wX5 hT aT yT gT) [0, 1, 2, 3, 4] (by decide) rfl) (free_of (wC := wX5 hT aT yT gT) (isC := [0, 1, 2, 3, 4]) X rfl) hl.1 rfl rfl (Nat.le_of_ble_eq_true rfl) dX5_readBehind_193 ⟨Nat.le_of_ble_eq_true rfl, Nat.le_of_ble_eq_true rfl⟩ (fun t H1 locs1 ht hB hk hS => ?_)
            have X : Hx D (tX5 yT ++ (tX7 yT_1 ++ (tX0 yT_15))) A s H1 locs1 (wX5 hT aT yT q_11.2 ++ (wX7 (aT 1) aT_1 yT_1 gT_1 ++ (wX0 hT_15 aT_15 yT_15 gT_15))) := Hx_after (isC := [0, 1, 2, 3, 4]) (isR := [5, 6, 7, 8, 9, 10, 11, 12, 13, 14, 15, 16, 17, 18, 19, 20, 21]) (pm := [17, 18, 19, 20, 21, 0, 1, 2, 3, 4, 5, 6, 7, 8, 9, 10, 11, 12, 13, 14, 15, 16]) (wr := wX7 (aT 1) aT_1 yT_1 gT_1 ++ (wX0 hT_15 aT_15 yT_15 gT_15)) X ⟨rfl, rfl, by decide, by decide, rfl, by decide⟩ ht hB hk hS
            clear hk hS ht hB
            generalize H1 = H at X ⊢
            generalize locs1 = locs at X ⊢
            refine lv_goto (tgt := 200) hx hb dX5_readBehind_196 (by decide) ?_
            have hq := Option.some.inj hF
            subst hq
            exact rt_i C X dX5_readBehind_200
        · replace hF := iF c7 hF
          by_cases c8 : x0 = (8 : Int32)
          · replace hF := iT c8 hF
            refine lv_tableIn (tgt := 201) (off := 192) hx hb dX5_readBehind_9 (by rw [c8]; decide) (by rw [c8]; decide) (by rw [c8]; rfl) (by decide) ?_
            refine lv_iload_n hx hb dX5_readBehind_201 rfl (lv_at hl 0 rfl) ?_
            refine lv_bipush (v := (45 : Int32)) hx hb dX5_readBehind_202 (by decide) ?_
            refine lv_icmp_ne (tgt := 221) hx hb dX5_readBehind_204 (by decide) (fun c => ?_) (fun c => ?_)
            · replace hF := iF c hF
              refine lv_iconst (v := (0 : Int32)) hx hb dX5_readBehind_221 (by decide) ?_
              have hq := Option.some.inj hF
              subst hq
              exact rt_i C X dX5_readBehind_222
            · replace hF := iT c hF
              refine lv_aload_n hx hb dX5_readBehind_207 rfl (lv_at hl 1 rfl) ?_
              refine va_get (D := D.1) (ci := 5) (v := .int (gI gT 9)) (C := RX5) (T := TX5) (N := 18) hx hb hts wi_X5 hown X.1 X.2.1 0 rfl rfl 9 (by decide) (hts _ q3_60) (fun _ h9 => h9) (fl_get (by decide)) dX5_readBehind_208 ?_
              refine lv_bipush (v := (40 : Int32)) hx hb dX5_readBehind_211 (by decide) ?_
              refine lv_icmp_ge (tgt := 221) hx hb dX5_readBehind_213 (by decide) (fun c => ?_) (fun c => ?_)
              · replace hF := iT c hF
                refine lv_iconst (v := (0 : Int32)) hx hb dX5_readBehind_221 (by decide) ?_
                have hq := Option.some.inj hF
                subst hq
                exact rt_i C X dX5_readBehind_222
              · replace hF := iF c hF
                refine lv_bipush (v := (9 : Int32)) hx hb dX5_readBehind_216 (by decide) ?_
                refine lv_goto (tgt := 222) hx hb dX5_readBehind_218 (by decide) ?_
                have hq := Option.some.inj hF
                subst hq
                exact rt_i C X dX5_readBehind_222
          · replace hF := iF c8 hF
            by_cases c9 : x0 = (9 : Int32)
            · replace hF := iT c9 hF
              refine lv_tableIn (tgt := 223) (off := 214) hx hb dX5_readBehind_9 (by rw [c9]; decide) (by rw [c9]; decide) (by rw [c9]; rfl) (by decide) ?_
              refine lv_aload_n hx hb dX5_readBehind_223 rfl (lv_at hl 1 rfl) ?_
              refine lv_aload_n hx hb dX5_readBehind_224 rfl (lv_at hl 1 rfl) ?_
              refine va_get (D := D.1) (ci := 5) (v := .ref (aT 1)) (C := RX5) (T := TX5) (N := 18) hx hb hts wi_X5 hown X.1 X.2.1 0 rfl rfl 1 (by decide) (hts _ q3_52) (fun _ h9 => h9) (fl_get (by decide)) dX5_readBehind_225 ?_
              refine va_getN (D := D.1) (ci := 7) (v := .int (gI gT_1 5)) (C := RX7) (T := TX7) (N := 12) hx hb hts wi_X7 hown X.1 X.2.1 5 rfl rfl 5 (by decide) (X.2.2.2.2.2.1.use q3_2 rfl) (fun _ h9 => h9) (fl_get (by decide)) dX5_readBehind_228 ?_
              refine va_put (D := D.1) (ci := 5) (v := .int (gI gT_1 5)) (ty := .int) (C := RX5) (T := TX5) (N := 18) hx hb hts wi_X5 tyX5 tyX5_ok nmX5 hown X.1 X.2.1 X.2.2.1 X.2.2.2.1 0 rfl rfl 12 (by decide) (hts _ q3_63) (fun _ h9 => h9) rfl (by decide +kernel) rfl rfl (by rw [List.length_map, List.length_range]; decide) dX5_readBehind_231 (fun H locs hP hD hS => ?_)
              have X : Hx D (tX5 yT ++ (tX7 yT_1 ++ (tX0 yT_15))) A s H locs (wX5 hT aT yT (sI gT 12 (gI gT_1 5)) ++ (wX7 (aT 1) aT_1 yT_1 gT_1 ++ (wX0 hT_15 aT_15 yT_15 gT_15))) := Hx_set X (set_l (by rw [wG_len (m := 5) rfl]; decide) (wG_sI (k := 12) rfl)) hP hD hS
              refine lv_aload_n hx hb dX5_readBehind_234 rfl (lv_at hl 1 rfl) ?_
              refine lv_aload_n hx hb dX5_readBehind_235 rfl (lv_at hl 1 rfl) ?_
              refine va_get (D := D.1) (ci := 5) (v := .ref (aT 1)) (C := RX5) (T := TX5) (N := 18) hx hb hts wi_X5 hown X.1 X.2.1 0 rfl rfl 1 (by decide) (hts _ q3_52) (fun _ h9 => h9) (fl_get (by decide)) dX5_readBehind_236 ?_
              refine va_getN (D := D.1) (ci := 7) (v := .int (gI gT_1 6)) (C := RX7) (T := TX7) (N := 12) hx hb hts wi_X7 hown X.1 X.2.1 5 rfl rfl 6 (by decide) (X.2.2.2.2.2.1.use q3_4 rfl) (fun _ h9 => h9) (fl_get (by decide)) dX5_readBehind_239 ?_
              refine va_put (D := D.1) (ci := 5) (v := .int (gI gT_1 6)) (ty := .int) (C := RX5) (T := TX5) (N := 18) hx hb hts wi_X5 tyX5 tyX5_ok nmX5 hown X.1 X.2.1 X.2.2.1 X.2.2.2.1 0 rfl rfl 13 (by decide) (hts _ q3_64) (fun _ h9 => h9) rfl (by decide +kernel) rfl rfl (by rw [List.length_map, List.length_range]; decide) dX5_readBehind_242 (fun H locs hP hD hS => ?_)
              have X : Hx D (tX5 yT ++ (tX7 yT_1 ++ (tX0 yT_15))) A s H locs (wX5 hT aT yT (sI (sI gT 12 (gI gT_1 5)) 13 (gI gT_1 6)) ++ (wX7 (aT 1) aT_1 yT_1 gT_1 ++ (wX0 hT_15 aT_15 yT_15 gT_15))) := Hx_set X (set_l (by rw [wG_len (m := 5) rfl]; decide) (wG_sI (k := 13) rfl)) hP hD hS
              refine lv_iload_n hx hb dX5_readBehind_245 rfl (lv_at hl 0 rfl) ?_
              refine lv_iconst (v := (2 : Int32)) hx hb dX5_readBehind_246 (by decide) ?_
              refine lv_icmp_ne (tgt := 255) hx hb dX5_readBehind_247 (by decide) (fun c => ?_) (fun c => ?_)
              · replace hF := iF c hF
                refine lv_iconst (v := (0 : Int32)) hx hb dX5_readBehind_255 (by decide) ?_
                have hq := Option.some.inj hF
                subst hq
                exact rt_i C X dX5_readBehind_256
              · replace hF := iT c hF
                refine lv_bipush (v := (10 : Int32)) hx hb dX5_readBehind_250 (by decide) ?_
                refine lv_goto (tgt := 256) hx hb dX5_readBehind_252 (by decide) ?_
                have hq := Option.some.inj hF
                subst hq
                exact rt_i C X dX5_readBehind_256
            · replace hF := iF c9 hF
              refine lv_tableOut (tgt := 257) hx hb dX5_readBehind_9 (tbl_out (4) (9) 6 (by decide) ⟨tne c4 (by decide), ⟨tne c5 (by decide), ⟨tne c6 (by decide), ⟨tne c7 (by decide), ⟨tne c8 (by decide), ⟨tne c9 (by decide), trivial⟩⟩⟩⟩⟩⟩) (by decide) ?_
              refine lv_iload_n hx hb dX5_readBehind_257 rfl (lv_at hl 0 rfl) ?_
              refine lv_bipush (v := (46 : Int32)) hx hb dX5_readBehind_258 (by decide) ?_
              refine lv_icmp_eq (tgt := 265) hx hb dX5_readBehind_260 (by decide) (fun c => ?_) (fun c => ?_)
              · replace hF := iT c hF
                refine lv_aload_n hx hb dX5_readBehind_265 rfl (lv_at hl 1 rfl) ?_
                refine lv_bipush (v := (16 : Int32)) hx hb dX5_readBehind_266 (by decide) ?_
                refine lv_aload_n hx hb dX5_readBehind_268 rfl (lv_at hl 1 rfl) ?_
                refine va_get (D := D.1) (ci := 5) (v := .int (gI gT 12)) (C := RX5) (T := TX5) (N := 18) hx hb hts wi_X5 hown X.1 X.2.1 0 rfl rfl 12 (by decide) (hts _ q3_63) (fun _ h9 => h9) (fl_get (by decide)) dX5_readBehind_269 ?_
                refine lv_aload_n hx hb dX5_readBehind_272 rfl (lv_at hl 1 rfl) ?_
                refine va_get (D := D.1) (ci := 5) (v := .int (gI gT 12)) (C := RX5) (T := TX5) (N := 18) hx hb hts wi_X5 hown X.1 X.2.1 0 rfl rfl 12 (by decide) (hts _ q3_63) (fun _ h9 => h9) (fl_get (by decide)) dX5_readBehind_273 ?_
                refine lv_aload_n hx hb dX5_readBehind_276 rfl (lv_at hl 1 rfl) ?_
                refine va_get (D := D.1) (ci := 5) (v := .int (gI gT 13)) (C := RX5) (T := TX5) (N := 18) hx hb hts wi_X5 hown X.1 X.2.1 0 rfl rfl 13 (by decide) (hts _ q3_64) (fun _ h9 => h9) (fl_get (by decide)) dX5_readBehind_277 ?_
                obtain ⟨q_13, hc_14, hF⟩ := bnd_some hF
                refine cV_v (As := [.int (16 : Int32), .int (gI gT 12), .int (gI gT 12), .int (gI gT 13)]) (rest := []) C X (c_X5_addNamed l D hT aT yT hT_15 aT_15 yT_15 gT gT_15 (16 : Int32) (gI gT 12) (gI gT 12) (gI gT 13) q_13 hc_14 _) (cwV 4 hts (good_V q4_148 q4_150 q0_29 q1_10 q4_151) rfl rfl rfl (by decide +kernel) ⟨Nat.le_of_ble_eq_true rfl, Nat.le_of_ble_eq_true rfl⟩) (va_recv X.1 X.2.1 (ci := 5) (q0 := 0) rfl rfl) (X.1.sub (tys' := tX5 yT ++ (tX0 yT_15)) [0, 1, 2, 3, 4, 5, 6, 7, 8, 9, 10, 11, 12, 13, 14, 15, 16, 17, 18] rfl) (X.2.1.sub (ws' := wX5 hT aT yT gT ++ (wX0 hT_15 aT_15 yT_15 gT_15)) [0, 1, 2, 3, 4, 6, 7, 8, 9, 10, 11, 12, 13, 14, 15, 16, 17, 18, 19, 20, 21] rfl) (X.2.2.1.sub (ws' := wX5 hT aT yT gT ++ (wX0 hT_15 aT_15 yT_15 gT_15)) [0, 1, 2, 3, 4, 6, 7, 8, 9, 10, 11, 12, 13, 14, 15, 16, 17, 18, 19, 20, 21] (by decide) rfl) (free_of (wC := wX5 hT aT yT gT ++ (wX0 hT_15 aT_15 yT_15 gT_15)) (isC := [0, 1, 2, 3, 4, 6, 7, 8, 9, 10, 11, 12, 13, 14, 15, 16, 17, 18, 19, 20, 21]) X rfl) hl.1 rfl rfl (Nat.le_of_ble_eq_true rfl) dX5_readBehind_280 ⟨Nat.le_of_ble_eq_true rfl, Nat.le_of_ble_eq_true rfl⟩ (fun t H1 locs1 ht hB hk hS => ?_)
                have X : Hx D (tX5 yT ++ (tX7 yT_1 ++ (tX0 yT_15))) A s H1 locs1 (wX5 hT aT yT gT ++ (wX7 (aT 1) aT_1 yT_1 gT_1 ++ (wX0 hT_15 aT_15 yT_15 q_13))) := Hx_after (isC := [0, 1, 2, 3, 4, 6, 7, 8, 9, 10, 11, 12, 13, 14, 15, 16, 17, 18, 19, 20, 21]) (isR := [5]) (pm := [1, 2, 3, 4, 5, 0, 6, 7, 8, 9, 10, 11, 12, 13, 14, 15, 16, 17, 18, 19, 20, 21]) (wr := wX7 (aT 1) aT_1 yT_1 gT_1) X ⟨rfl, rfl, by decide, by decide, rfl, by decide⟩ ht hB hk hS
                clear hk hS ht hB
                generalize H1 = H at X ⊢
                generalize locs1 = locs at X ⊢
                refine lv_iconst (v := (3 : Int32)) hx hb dX5_readBehind_283 (by decide) ?_
                have hq := Option.some.inj hF
                subst hq
                exact rt_i C X dX5_readBehind_284
              · replace hF := iF c hF
                refine lv_iconst (v := (0 : Int32)) hx hb dX5_readBehind_263 (by decide) ?_
                have hq := Option.some.inj hF
                subst hq
                exact rt_i C X dX5_readBehind_264

/-! ### X5_rankOf -/
theorem dX5_rankOf_0 : decode cX5_rankOf 0 = .ok (.iload_n 0, 1) := by decide +kernel
theorem dX5_rankOf_1 : decode cX5_rankOf 1 = .ok (.tableswitch 84 49 62 #[79, 79, 81, 81, 81, 84, 77, 77, 77, 77, 75, 75, 73, 71], 71) := by decide +kernel
theorem dX5_rankOf_72 : decode cX5_rankOf 72 = .ok (.iconst 1, 1) := by decide +kernel
theorem dX5_rankOf_73 : decode cX5_rankOf 73 = .ok (.ireturn, 1) := by decide +kernel
theorem dX5_rankOf_74 : decode cX5_rankOf 74 = .ok (.iconst 2, 1) := by decide +kernel
theorem dX5_rankOf_75 : decode cX5_rankOf 75 = .ok (.ireturn, 1) := by decide +kernel
theorem dX5_rankOf_76 : decode cX5_rankOf 76 = .ok (.iconst 3, 1) := by decide +kernel
theorem dX5_rankOf_77 : decode cX5_rankOf 77 = .ok (.ireturn, 1) := by decide +kernel
theorem dX5_rankOf_78 : decode cX5_rankOf 78 = .ok (.iconst 4, 1) := by decide +kernel
theorem dX5_rankOf_79 : decode cX5_rankOf 79 = .ok (.ireturn, 1) := by decide +kernel
theorem dX5_rankOf_80 : decode cX5_rankOf 80 = .ok (.iconst 5, 1) := by decide +kernel
theorem dX5_rankOf_81 : decode cX5_rankOf 81 = .ok (.ireturn, 1) := by decide +kernel
theorem dX5_rankOf_82 : decode cX5_rankOf 82 = .ok (.bipush 6, 2) := by decide +kernel
theorem dX5_rankOf_84 : decode cX5_rankOf 84 = .ok (.ireturn, 1) := by decide +kernel
theorem dX5_rankOf_85 : decode cX5_rankOf 85 = .ok (.iconst 0, 1) := by decide +kernel
theorem dX5_rankOf_86 : decode cX5_rankOf 86 = .ok (.ireturn, 1) := by decide +kernel
abbrev R_X5_rankOf : Room := ({ frames := 0, cells := 0, slots := 0, locals := 0 } : Room)
def f_X5_rankOf (x0 : Int32) : Option (Int32) :=
  if x0 = (49 : Int32) then (some (5 : Int32)) else (if x0 = (50 : Int32) then (some (5 : Int32)) else (if x0 = (51 : Int32) then (some (6 : Int32)) else (if x0 = (52 : Int32) then (some (6 : Int32)) else (if x0 = (53 : Int32) then (some (6 : Int32)) else (if x0 = (54 : Int32) then (some (0 : Int32)) else (if x0 = (55 : Int32) then (some (4 : Int32)) else (if x0 = (56 : Int32) then (some (4 : Int32)) else (if x0 = (57 : Int32) then (some (4 : Int32)) else (if x0 = (58 : Int32) then (some (4 : Int32)) else (if x0 = (59 : Int32) then (some (3 : Int32)) else (if x0 = (60 : Int32) then (some (3 : Int32)) else (if x0 = (61 : Int32) then (some (2 : Int32)) else (if x0 = (62 : Int32) then (some (1 : Int32)) else (some (0 : Int32)))))))))))))))
set_option maxHeartbeats 4000000 in
set_option maxRecDepth 100000 in
theorem c_X5_rankOf (l : Launch) (D : Dx) (x0 : Int32) (q : Int32) (hF : f_X5_rankOf x0 = some q) (sz : Nat) : Met l yX5_rankOf (ws_ yX5_rankOf cX5_rankOf 1 (some .int)) R_X5_rankOf (PC D ([]) [.int x0] ([]) sz) (QI D (va_A ([]) sz) ([]) q) 0 0 (va_A ([]) sz) := by
  refine Met.ofW (cc := cX5_rankOf) (maxL := 1) (ret := (some .int)) (by decide) rfl ?_
  intro p e s m args below meth c s₁ B hml hv
  obtain ⟨rfl, hsz, hP, hK, hD, hN⟩ := hv
  subst hsz
  have C : Cx p s m _ meth c cX5_rankOf (some .int) 1 RX5 lw_all := Cx_of B hml
  have X := Hx_start hP hK hD hN
  obtain ⟨hx, hb, hr, -, hown, hts, hlk⟩ := id C
  generalize va_A ([]) s.heap.size = A at X ⊢
  have hl := lv_entry ([.int x0]) (n := 1) (Nat.le_of_ble_eq_true rfl)
  rw [lg_entry_eq]
  generalize (lg_sl ([.int x0]) ++ List.replicate (1 - (lg_sl ([.int x0])).length) Slot.unset).toArray = ls at hl ⊢
  have hl : lv_has ls 1 [(0, .int x0)] := hl
  unfold f_X5_rankOf at hF
  refine lv_iload_n hx hb dX5_rankOf_0 rfl (lv_at hl 0 rfl) ?_
  by_cases c49 : x0 = (49 : Int32)
  · replace hF := iT c49 hF
    refine lv_tableIn (tgt := 80) (off := 79) hx hb dX5_rankOf_1 (by rw [c49]; decide) (by rw [c49]; decide) (by rw [c49]; rfl) (by decide) ?_
    refine lv_iconst (v := (5 : Int32)) hx hb dX5_rankOf_80 (by decide) ?_
    have hq := Option.some.inj hF
    subst hq
    exact rt_i C X dX5_rankOf_81
  · replace hF := iF c49 hF
    by_cases c50 : x0 = (50 : Int32)
    · replace hF := iT c50 hF
      refine lv_tableIn (tgt := 80) (off := 79) hx hb dX5_rankOf_1 (by rw [c50]; decide) (by rw [c50]; decide) (by rw [c50]; rfl) (by decide) ?_
      refine lv_iconst (v := (5 : Int32)) hx hb dX5_rankOf_80 (by decide) ?_
      have hq := Option.some.inj hF
      subst hq
      exact rt_i C X dX5_rankOf_81
    · replace hF := iF c50 hF
      by_cases c51 : x0 = (51 : Int32)
      · replace hF := iT c51 hF
        refine lv_tableIn (tgt := 82) (off := 81) hx hb dX5_rankOf_1 (by rw [c51]; decide) (by rw [c51]; decide) (by rw [c51]; rfl) (by decide) ?_
        refine lv_bipush (v := (6 : Int32)) hx hb dX5_rankOf_82 (by decide) ?_
        have hq := Option.some.inj hF
        subst hq
        exact rt_i C X dX5_rankOf_84
      · replace hF := iF c51 hF
        by_cases c52 : x0 = (52 : Int32)
        · replace hF := iT c52 hF
          refine lv_tableIn (tgt := 82) (off := 81) hx hb dX5_rankOf_1 (by rw [c52]; decide) (by rw [c52]; decide) (by rw [c52]; rfl) (by decide) ?_
          refine lv_bipush (v := (6 : Int32)) hx hb dX5_rankOf_82 (by decide) ?_
          have hq := Option.some.inj hF
          subst hq
          exact rt_i C X dX5_rankOf_84
        · replace hF := iF c52 hF
          by_cases c53 : x0 = (53 : Int32)
          · replace hF := iT c53 hF
            refine lv_tableIn (tgt := 82) (off := 81) hx hb dX5_rankOf_1 (by rw [c53]; decide) (by rw [c53]; decide) (by rw [c53]; rfl) (by decide) ?_
            refine lv_bipush (v := (6 : Int32)) hx hb dX5_rankOf_82 (by decide) ?_
            have hq := Option.some.inj hF
            subst hq
            exact rt_i C X dX5_rankOf_84
          · replace hF := iF c53 hF
            by_cases c54 : x0 = (54 : Int32)
            · replace hF := iT c54 hF
              refine lv_tableIn (tgt := 85) (off := 84) hx hb dX5_rankOf_1 (by rw [c54]; decide) (by rw [c54]; decide) (by rw [c54]; rfl) (by decide) ?_
              refine lv_iconst (v := (0 : Int32)) hx hb dX5_rankOf_85 (by decide) ?_
              have hq := Option.some.inj hF
              subst hq
              exact rt_i C X dX5_rankOf_86
            · replace hF := iF c54 hF
              by_cases c55 : x0 = (55 : Int32)
              · replace hF := iT c55 hF
                refine lv_tableIn (tgt := 78) (off := 77) hx hb dX5_rankOf_1 (by rw [c55]; decide) (by rw [c55]; decide) (by rw [c55]; rfl) (by decide) ?_
                refine lv_iconst (v := (4 : Int32)) hx hb dX5_rankOf_78 (by decide) ?_
                have hq := Option.some.inj hF
                subst hq
                exact rt_i C X dX5_rankOf_79
              · replace hF := iF c55 hF
                by_cases c56 : x0 = (56 : Int32)
                · replace hF := iT c56 hF
                  refine lv_tableIn (tgt := 78) (off := 77) hx hb dX5_rankOf_1 (by rw [c56]; decide) (by rw [c56]; decide) (by rw [c56]; rfl) (by decide) ?_
                  refine lv_iconst (v := (4 : Int32)) hx hb dX5_rankOf_78 (by decide) ?_
                  have hq := Option.some.inj hF
                  subst hq
                  exact rt_i C X dX5_rankOf_79
                · replace hF := iF c56 hF
                  by_cases c57 : x0 = (57 : Int32)
                  · replace hF := iT c57 hF
                    refine lv_tableIn (tgt := 78) (off := 77) hx hb dX5_rankOf_1 (by rw [c57]; decide) (by rw [c57]; decide) (by rw [c57]; rfl) (by decide) ?_
                    refine lv_iconst (v := (4 : Int32)) hx hb dX5_rankOf_78 (by decide) ?_
                    have hq := Option.some.inj hF
                    subst hq
                    exact rt_i C X dX5_rankOf_79
                  · replace hF := iF c57 hF
                    by_cases c58 : x0 = (58 : Int32)
                    · replace hF := iT c58 hF
                      refine lv_tableIn (tgt := 78) (off := 77) hx hb dX5_rankOf_1 (by rw [c58]; decide) (by rw [c58]; decide) (by rw [c58]; rfl) (by decide) ?_
                      refine lv_iconst (v := (4 : Int32)) hx hb dX5_rankOf_78 (by decide) ?_
                      have hq := Option.some.inj hF
                      subst hq
                      exact rt_i C X dX5_rankOf_79
                    · replace hF := iF c58 hF
                      by_cases c59 : x0 = (59 : Int32)
                      · replace hF := iT c59 hF
                        refine lv_tableIn (tgt := 76) (off := 75) hx hb dX5_rankOf_1 (by rw [c59]; decide) (by rw [c59]; decide) (by rw [c59]; rfl) (by decide) ?_
                        refine lv_iconst (v := (3 : Int32)) hx hb dX5_rankOf_76 (by decide) ?_
                        have hq := Option.some.inj hF
                        subst hq
                        exact rt_i C X dX5_rankOf_77
                      · replace hF := iF c59 hF
                        by_cases c60 : x0 = (60 : Int32)
                        · replace hF := iT c60 hF
                          refine lv_tableIn (tgt := 76) (off := 75) hx hb dX5_rankOf_1 (by rw [c60]; decide) (by rw [c60]; decide) (by rw [c60]; rfl) (by decide) ?_
                          refine lv_iconst (v := (3 : Int32)) hx hb dX5_rankOf_76 (by decide) ?_
                          have hq := Option.some.inj hF
                          subst hq
                          exact rt_i C X dX5_rankOf_77
                        · replace hF := iF c60 hF
                          by_cases c61 : x0 = (61 : Int32)
                          · replace hF := iT c61 hF
                            refine lv_tableIn (tgt := 74) (off := 73) hx hb dX5_rankOf_1 (by rw [c61]; decide) (by rw [c61]; decide) (by rw [c61]; rfl) (by decide) ?_
                            refine lv_iconst (v := (2 : Int32)) hx hb dX5_rankOf_74 (by decide) ?_
                            have hq := Option.some.inj hF
                            subst hq
                            exact rt_i C X dX5_rankOf_75
                          · replace hF := iF c61 hF
                            by_cases c62 : x0 = (62 : Int32)
                            · replace hF := iT c62 hF
                              refine lv_tableIn (tgt := 72) (off := 71) hx hb dX5_rankOf_1 (by rw [c62]; decide) (by rw [c62]; decide) (by rw [c62]; rfl) (by decide) ?_
                              refine lv_iconst (v := (1 : Int32)) hx hb dX5_rankOf_72 (by decide) ?_
                              have hq := Option.some.inj hF
                              subst hq
                              exact rt_i C X dX5_rankOf_73
                            · replace hF := iF c62 hF
                              refine lv_tableOut (tgt := 85) hx hb dX5_rankOf_1 (tbl_out (49) (62) 14 (by decide) ⟨tne c49 (by decide), ⟨tne c50 (by decide), ⟨tne c51 (by decide), ⟨tne c52 (by decide), ⟨tne c53 (by decide), ⟨tne c54 (by decide), ⟨tne c55 (by decide), ⟨tne c56 (by decide), ⟨tne c57 (by decide), ⟨tne c58 (by decide), ⟨tne c59 (by decide), ⟨tne c60 (by decide), ⟨tne c61 (by decide), ⟨tne c62 (by decide), trivial⟩⟩⟩⟩⟩⟩⟩⟩⟩⟩⟩⟩⟩⟩) (by decide) ?_
                              refine lv_iconst (v := (0 : Int32)) hx hb dX5_rankOf_85 (by decide) ?_
                              have hq := Option.some.inj hF
                              subst hq
                              exact rt_i C X dX5_rankOf_86

/-! ### X5_writeTop -/
theorem dX5_writeTop_0 : decode cX5_writeTop 0 = .ok (.aload_n 0, 1) := by decide +kernel
theorem dX5_writeTop_1 : decode cX5_writeTop 1 = .ok (.getfield 25, 3) := by decide +kernel
theorem dX5_writeTop_4 : decode cX5_writeTop 4 = .ok (.aload_n 0, 1) := by decide +kernel
theorem dX5_writeTop_5 : decode cX5_writeTop 5 = .ok (.getfield 31, 3) := by decide +kernel
theorem dX5_writeTop_8 : decode cX5_writeTop 8 = .ok (.iaload, 1) := by decide +kernel
theorem dX5_writeTop_9 : decode cX5_writeTop 9 = .ok (.istore_n 2, 1) := by decide +kernel
theorem dX5_writeTop_10 : decode cX5_writeTop 10 = .ok (.aload_n 0, 1) := by decide +kernel
theorem dX5_writeTop_11 : decode cX5_writeTop 11 = .ok (.getfield 71, 3) := by decide +kernel
theorem dX5_writeTop_14 : decode cX5_writeTop 14 = .ok (.iload_n 1, 1) := by decide +kernel
theorem dX5_writeTop_15 : decode cX5_writeTop 15 = .ok (.bipush 70, 2) := by decide +kernel
theorem dX5_writeTop_17 : decode cX5_writeTop 17 = .ok (.if_icmp .ne 8, 3) := by decide +kernel
theorem dX5_writeTop_20 : decode cX5_writeTop 20 = .ok (.bipush 44, 2) := by decide +kernel
theorem dX5_writeTop_22 : decode cX5_writeTop 22 = .ok (.goto 4, 3) := by decide +kernel
theorem dX5_writeTop_25 : decode cX5_writeTop 25 = .ok (.iload_n 1, 1) := by decide +kernel
theorem dX5_writeTop_26 : decode cX5_writeTop 26 = .ok (.aload_n 0, 1) := by decide +kernel
theorem dX5_writeTop_27 : decode cX5_writeTop 27 = .ok (.getfield 22, 3) := by decide +kernel
theorem dX5_writeTop_30 : decode cX5_writeTop 30 = .ok (.aload_n 0, 1) := by decide +kernel
theorem dX5_writeTop_31 : decode cX5_writeTop 31 = .ok (.getfield 31, 3) := by decide +kernel
theorem dX5_writeTop_34 : decode cX5_writeTop 34 = .ok (.iaload, 1) := by decide +kernel
theorem dX5_writeTop_35 : decode cX5_writeTop 35 = .ok (.invokevirtual 244, 3) := by decide +kernel
theorem dX5_writeTop_38 : decode cX5_writeTop 38 = .ok (.istore_n 3, 1) := by decide +kernel
theorem dX5_writeTop_39 : decode cX5_writeTop 39 = .ok (.iload_n 3, 1) := by decide +kernel
theorem dX5_writeTop_40 : decode cX5_writeTop 40 = .ok (.iconst (-1), 1) := by decide +kernel
theorem dX5_writeTop_41 : decode cX5_writeTop 41 = .ok (.if_icmp .ne 4, 3) := by decide +kernel
theorem dX5_writeTop_44 : decode cX5_writeTop 44 = .ok (.return_, 1) := by decide +kernel
theorem dX5_writeTop_45 : decode cX5_writeTop 45 = .ok (.iload_n 1, 1) := by decide +kernel
theorem dX5_writeTop_46 : decode cX5_writeTop 46 = .ok (.bipush 66, 2) := by decide +kernel
theorem dX5_writeTop_48 : decode cX5_writeTop 48 = .ok (.if_icmp .ne 16, 3) := by decide +kernel
theorem dX5_writeTop_51 : decode cX5_writeTop 51 = .ok (.aload_n 0, 1) := by decide +kernel
theorem dX5_writeTop_52 : decode cX5_writeTop 52 = .ok (.getfield 71, 3) := by decide +kernel
theorem dX5_writeTop_55 : decode cX5_writeTop 55 = .ok (.getfield 266, 3) := by decide +kernel
theorem dX5_writeTop_58 : decode cX5_writeTop 58 = .ok (.iload_n 3, 1) := by decide +kernel
theorem dX5_writeTop_59 : decode cX5_writeTop 59 = .ok (.iload_n 2, 1) := by decide +kernel
theorem dX5_writeTop_60 : decode cX5_writeTop 60 = .ok (.iastore, 1) := by decide +kernel
theorem dX5_writeTop_61 : decode cX5_writeTop 61 = .ok (.goto 46, 3) := by decide +kernel
theorem dX5_writeTop_64 : decode cX5_writeTop 64 = .ok (.iload_n 1, 1) := by decide +kernel
theorem dX5_writeTop_65 : decode cX5_writeTop 65 = .ok (.bipush 70, 2) := by decide +kernel
theorem dX5_writeTop_67 : decode cX5_writeTop 67 = .ok (.if_icmp .ne 22, 3) := by decide +kernel
theorem dX5_writeTop_70 : decode cX5_writeTop 70 = .ok (.aload_n 0, 1) := by decide +kernel
theorem dX5_writeTop_71 : decode cX5_writeTop 71 = .ok (.getfield 71, 3) := by decide +kernel
theorem dX5_writeTop_74 : decode cX5_writeTop 74 = .ok (.getfield 247, 3) := by decide +kernel
theorem dX5_writeTop_77 : decode cX5_writeTop 77 = .ok (.iload_n 3, 1) := by decide +kernel
theorem dX5_writeTop_78 : decode cX5_writeTop 78 = .ok (.iload_n 2, 1) := by decide +kernel
theorem dX5_writeTop_79 : decode cX5_writeTop 79 = .ok (.iastore, 1) := by decide +kernel
theorem dX5_writeTop_80 : decode cX5_writeTop 80 = .ok (.aload_n 0, 1) := by decide +kernel
theorem dX5_writeTop_81 : decode cX5_writeTop 81 = .ok (.iload_n 2, 1) := by decide +kernel
theorem dX5_writeTop_82 : decode cX5_writeTop 82 = .ok (.iload_n 3, 1) := by decide +kernel
theorem dX5_writeTop_83 : decode cX5_writeTop 83 = .ok (.invokevirtual 305, 3) := by decide +kernel
theorem dX5_writeTop_86 : decode cX5_writeTop 86 = .ok (.goto 21, 3) := by decide +kernel
theorem dX5_writeTop_89 : decode cX5_writeTop 89 = .ok (.iload_n 1, 1) := by decide +kernel
theorem dX5_writeTop_90 : decode cX5_writeTop 90 = .ok (.bipush 61, 2) := by decide +kernel
theorem dX5_writeTop_92 : decode cX5_writeTop 92 = .ok (.if_icmp .eq 9, 3) := by decide +kernel
theorem dX5_writeTop_95 : decode cX5_writeTop 95 = .ok (.iload_n 1, 1) := by decide +kernel
theorem dX5_writeTop_96 : decode cX5_writeTop 96 = .ok (.bipush 62, 2) := by decide +kernel
theorem dX5_writeTop_98 : decode cX5_writeTop 98 = .ok (.if_icmp .ne 9, 3) := by decide +kernel
theorem dX5_writeTop_101 : decode cX5_writeTop 101 = .ok (.aload_n 0, 1) := by decide +kernel
theorem dX5_writeTop_102 : decode cX5_writeTop 102 = .ok (.iload_n 2, 1) := by decide +kernel
theorem dX5_writeTop_103 : decode cX5_writeTop 103 = .ok (.iload_n 3, 1) := by decide +kernel
theorem dX5_writeTop_104 : decode cX5_writeTop 104 = .ok (.invokevirtual 305, 3) := by decide +kernel
theorem dX5_writeTop_107 : decode cX5_writeTop 107 = .ok (.return_, 1) := by decide +kernel
abbrev R_X5_writeTop : Room := ({ frames := 1, cells := 0, slots := 0, locals := 23 } : Room)
def b_X5_writeTop_101 (hT_15 : Nat) (gT : Gs) (gT_15 : Gs) (v2 : Int32) (v3 : Int32) : Option (Gs) :=
  bnd (f_X5_skipTo hT_15 gT gT_15 v2 v3) (fun q_6 => some q_6)
def b_X5_writeTop_26 (hT_15 : Nat) (gT : Gs) (gT_15 : Gs) (v1 : Int32) (v2 : Int32) (s0 : Int32) : Option (Gs) :=
  grd (inB (gI gT 8) 320) (bnd (f_X0_add gT_15 s0 (gIA gT 5 (gI gT 8).toNatClampNeg)) (fun q_4 => if q_4.1 = (-1 : Int32) then (some q_4.2) else (if v1 = (66 : Int32) then (grd (rEq (gR gT 15) hT_15) (grd (inB q_4.1 840) (some (sIA q_4.2 2 (upd (gIA q_4.2 2) q_4.1.toNatClampNeg v2))))) else (if v1 = (70 : Int32) then (grd (rEq (gR gT 15) hT_15) (grd (inB q_4.1 840) (bnd (f_X5_skipTo hT_15 gT (sIA q_4.2 5 (upd (gIA q_4.2 5) q_4.1.toNatClampNeg v2)) v2 q_4.1) (fun q_10 => some q_10)))) else (if v1 = (61 : Int32) then (b_X5_writeTop_101 hT_15 gT q_4.2 v2 q_4.1) else (if v1 = (62 : Int32) then (b_X5_writeTop_101 hT_15 gT q_4.2 v2 q_4.1) else (some q_4.2)))))))
def f_X5_writeTop (hT_15 : Nat) (gT : Gs) (gT_15 : Gs) (x0 : Int32) : Option (Gs) :=
  grd (inB (gI gT 8) 320) (grd (rEq (gR gT 15) hT_15) (if x0 = (70 : Int32) then (b_X5_writeTop_26 hT_15 gT gT_15 x0 (gIA gT 6 (gI gT 8).toNatClampNeg) (44 : Int32)) else (b_X5_writeTop_26 hT_15 gT gT_15 x0 (gIA gT 6 (gI gT 8).toNatClampNeg) x0)))
def S_X5_writeTop_101 (l : Launch) (D : Dx) (hT : Nat) (aT : Nat → Nat) (yT : Nat → ClassId) (hT_15 : Nat) (aT_15 : Nat → Nat) (yT_15 : Nat → ClassId) (fn : Gs → Gs → Int32 → Int32 → Option (Gs)) : Prop :=
  ∀ {p : Program} {e : Env} {s : State} {m : MethodId} {args : Array Value} {below : List Frame} {meth : Method} {c : Code} {H : Heap} {locs : List Loc} {A : Nat → Prop} {ls : Array Slot} {gT : Gs} {gT_15 : Gs} {v2 : Int32} {v3 : Int32} {q : Gs}, Cx p s m args meth c cX5_writeTop none 4 RX5 lw_all → Hx D (tX5 yT ++ (tX0 yT_15)) A s H locs (wX5 hT aT yT gT ++ (wX0 hT_15 aT_15 yT_15 gT_15)) → lv_has ls 4 [(0, .ref hT), (2, .int v2), (3, .int v3)] → fn gT gT_15 v2 v3 = some q → W p l e R_X5_writeTop s m args below meth c H locs 0 0 (MQ below (QV D A (wX5 hT aT yT gT ++ (wX0 hT_15 aT_15 yT_15 q))) args s 0 0 A) (F0 m 101 ls [])
def S_X5_writeTop_26 (l : Launch) (D : Dx) (hT : Nat) (aT : Nat → Nat) (yT : Nat → ClassId) (hT_15 : Nat) (aT_15 : Nat → Nat) (yT_15 : Nat → ClassId) (fn : Gs → Gs → Int32 → Int32 → Int32 → Option (Gs)) : Prop :=
  ∀ {p : Program} {e : Env} {s : State} {m : MethodId} {args : Array Value} {below : List Frame} {meth : Method} {c : Code} {H : Heap} {locs : List Loc} {A : Nat → Prop} {ls : Array Slot} {gT : Gs} {gT_15 : Gs} {v1 : Int32} {v2 : Int32} {s0 : Int32} {q : Gs}, Cx p s m args meth c cX5_writeTop none 4 RX5 lw_all → Hx D (tX5 yT ++ (tX0 yT_15)) A s H locs (wX5 hT aT yT gT ++ (wX0 hT_15 aT_15 yT_15 gT_15)) → lv_has ls 4 [(0, .ref hT), (1, .int v1), (2, .int v2)] → fn gT gT_15 v1 v2 s0 = some q → W p l e R_X5_writeTop s m args below meth c H locs 0 0 (MQ below (QV D A (wX5 hT aT yT gT ++ (wX0 hT_15 aT_15 yT_15 q))) args s 0 0 A) (F0 m 26 ls [.int s0, .ref hT_15])
set_option maxHeartbeats 4000000 in
set_option maxRecDepth 100000 in
theorem k_X5_writeTop_101 (l : Launch) (D : Dx) (hT : Nat) (aT : Nat → Nat) (yT : Nat → ClassId) (hT_15 : Nat) (aT_15 : Nat → Nat) (yT_15 : Nat → ClassId) : S_X5_writeTop_101 l D hT aT yT hT_15 aT_15 yT_15 (b_X5_writeTop_101 hT_15) := by
  intro p e s m args below meth c H locs A ls gT gT_15 v2 v3 q C X hl hF
  obtain ⟨hx, hb, hr, hml, hown, hts, hlk⟩ := id C
  unfold b_X5_writeTop_101 at hF
  refine lv_aload_n hx hb dX5_writeTop_101 rfl (lv_at hl 0 rfl) ?_
  refine lv_iload_n hx hb dX5_writeTop_102 rfl (lv_at hl 1 rfl) ?_
  refine lv_iload_n hx hb dX5_writeTop_103 rfl (lv_at hl 2 rfl) ?_
  obtain ⟨q_6, hc_7, hF⟩ := bnd_some hF
  refine cV_v (As := [.int v2, .int v3]) (rest := []) C X (c_X5_skipTo l D hT aT yT hT_15 aT_15 yT_15 gT gT_15 v2 v3 q_6 hc_7 _) (cwV 2 hts (good_V q4_105 q4_107 q0_19 q1_10 q4_108) rfl rfl rfl (by decide +kernel) ⟨Nat.le_of_ble_eq_true rfl, Nat.le_of_ble_eq_true rfl⟩) (va_recv X.1 X.2.1 (ci := 5) (q0 := 0) rfl rfl) X.1 X.2.1 X.2.2.1 (free_all X) hl.1 rfl rfl (Nat.le_of_ble_eq_true rfl) dX5_writeTop_104 ⟨Nat.le_of_ble_eq_true rfl, Nat.le_of_ble_eq_true rfl⟩ (fun t H1 locs1 ht hB hk hS => ?_)
  have X : Hx D (tX5 yT ++ (tX0 yT_15)) A s H1 locs1 (wX5 hT aT yT gT ++ (wX0 hT_15 aT_15 yT_15 q_6)) := Hx_after_all X ht hB hS
  clear hk hS ht hB
  generalize H1 = H at X ⊢
  generalize locs1 = locs at X ⊢
  have hq := Option.some.inj hF
  subst hq
  exact rt_v C X dX5_writeTop_107
set_option maxHeartbeats 4000000 in
set_option maxRecDepth 100000 in
theorem k_X5_writeTop_26 (l : Launch) (D : Dx) (hT : Nat) (aT : Nat → Nat) (yT : Nat → ClassId) (hT_15 : Nat) (aT_15 : Nat → Nat) (yT_15 : Nat → ClassId) : S_X5_writeTop_26 l D hT aT yT hT_15 aT_15 yT_15 (b_X5_writeTop_26 hT_15) := by
  intro p e s m args below meth c H locs A ls gT gT_15 v1 v2 s0 q C X hl hF
  obtain ⟨hx, hb, hr, hml, hown, hts, hlk⟩ := id C
  unfold b_X5_writeTop_26 at hF
  refine lv_aload_n hx hb dX5_writeTop_26 rfl (lv_at hl 0 rfl) ?_
  refine va_get (D := D.1) (ci := 5) (v := .ref (aT 5)) (C := RX5) (T := TX5) (N := 18) hx hb hts wi_X5 hown X.1 X.2.1 0 rfl rfl 5 (by decide) (hts _ q3_56) (fun _ h9 => h9) (fl_get (by decide)) dX5_writeTop_27 ?_
  refine lv_aload_n hx hb dX5_writeTop_30 rfl (lv_at hl 0 rfl) ?_
  refine va_get (D := D.1) (ci := 5) (v := .int (gI gT 8)) (C := RX5) (T := TX5) (N := 18) hx hb hts wi_X5 hown X.1 X.2.1 0 rfl rfl 8 (by decide) (hts _ q3_59) (fun _ h9 => h9) (fl_get (by decide)) dX5_writeTop_31 ?_
  obtain ⟨h_3, hF⟩ := grd_some hF
  refine va_iald (D := D.1) (f := gIA gT 5) hx hb X.1 X.2.1 2 1 rfl rfl (inB_ok h_3) dX5_writeTop_34 ?_
  obtain ⟨q_4, hc_5, hF⟩ := bnd_some hF
  refine cV_i (As := [.int s0, .int (gIA gT 5 (gI gT 8).toNatClampNeg)]) (rest := []) C X (c_X0_add l D hT_15 aT_15 yT_15 gT_15 s0 (gIA gT 5 (gI gT 8).toNatClampNeg) q_4 hc_5 _) (cwV 2 hts (good_V q4_101 q4_102 q4_103 q1_8 q4_104) rfl rfl rfl (by decide +kernel) ⟨Nat.le_of_ble_eq_true rfl, Nat.le_of_ble_eq_true rfl⟩) (va_recv X.1 X.2.1 (ci := 0) (q0 := 5) rfl rfl) (X.1.sub (tys' := tX0 yT_15) [4, 5, 6, 7, 8, 9, 10, 11, 12, 13, 14, 15, 16, 17, 18] rfl) (X.2.1.sub (ws' := wX0 hT_15 aT_15 yT_15 gT_15) [5, 6, 7, 8, 9, 10, 11, 12, 13, 14, 15, 16, 17, 18, 19, 20] rfl) (X.2.2.1.sub (ws' := wX0 hT_15 aT_15 yT_15 gT_15) [5, 6, 7, 8, 9, 10, 11, 12, 13, 14, 15, 16, 17, 18, 19, 20] (by decide) rfl) (free_of (wC := wX0 hT_15 aT_15 yT_15 gT_15) (isC := [5, 6, 7, 8, 9, 10, 11, 12, 13, 14, 15, 16, 17, 18, 19, 20]) X rfl) hl.1 rfl rfl (Nat.le_of_ble_eq_true rfl) dX5_writeTop_35 ⟨Nat.le_of_ble_eq_true rfl, Nat.le_of_ble_eq_true rfl⟩ (fun t H1 locs1 ht hB hk hS => ?_)
  have X : Hx D (tX5 yT ++ (tX0 yT_15)) A s H1 locs1 (wX5 hT aT yT gT ++ (wX0 hT_15 aT_15 yT_15 q_4.2)) := Hx_after (isC := [5, 6, 7, 8, 9, 10, 11, 12, 13, 14, 15, 16, 17, 18, 19, 20]) (isR := [0, 1, 2, 3, 4]) (pm := [0, 1, 2, 3, 4, 5, 6, 7, 8, 9, 10, 11, 12, 13, 14, 15, 16, 17, 18, 19, 20]) (wr := wX5 hT aT yT gT) X ⟨rfl, rfl, by decide, by decide, rfl, by decide⟩ ht hB hk hS
  clear hk hS ht hB
  generalize H1 = H at X ⊢
  generalize locs1 = locs at X ⊢
  refine lv_istore_n (lv' := [(3, .int q_4.1), (0, .ref hT), (1, .int v1), (2, .int v2)]) hx hb dX5_writeTop_38 rfl hl (by decide) rfl (fun ls hl => ?_)
  refine lv_iload_n hx hb dX5_writeTop_39 rfl (lv_at hl 0 rfl) ?_
  refine lv_iconst (v := (-1 : Int32)) hx hb dX5_writeTop_40 (by decide) ?_
  refine lv_icmp_ne (tgt := 45) hx hb dX5_writeTop_41 (by decide) (fun c => ?_) (fun c => ?_)
  · replace hF := iF c hF
    refine lv_iload_n hx hb dX5_writeTop_45 rfl (lv_at hl 2 rfl) ?_
    refine lv_bipush (v := (66 : Int32)) hx hb dX5_writeTop_46 (by decide) ?_
    refine lv_icmp_ne (tgt := 64) hx hb dX5_writeTop_48 (by decide) (fun c => ?_) (fun c => ?_)
    · replace hF := iF c hF
      refine lv_iload_n hx hb dX5_writeTop_64 rfl (lv_at hl 2 rfl) ?_
      refine lv_bipush (v := (70 : Int32)) hx hb dX5_writeTop_65 (by decide) ?_
      refine lv_icmp_ne (tgt := 89) hx hb dX5_writeTop_67 (by decide) (fun c => ?_) (fun c => ?_)
      · replace hF := iF c hF
        refine lv_iload_n hx hb dX5_writeTop_89 rfl (lv_at hl 2 rfl) ?_
        refine lv_bipush (v := (61 : Int32)) hx hb dX5_writeTop_90 (by decide) ?_
        refine lv_icmp_eq (tgt := 101) hx hb dX5_writeTop_92 (by decide) (fun c => ?_) (fun c => ?_)
        · replace hF := iT c hF
          exact (k_X5_writeTop_101 l D hT aT yT hT_15 aT_15 yT_15) C X (lv_sub hl [1, 3, 0] rfl) hF
        · replace hF := iF c hF
          refine lv_iload_n hx hb dX5_writeTop_95 rfl (lv_at hl 2 rfl) ?_
          refine lv_bipush (v := (62 : Int32)) hx hb dX5_writeTop_96 (by decide) ?_
          refine lv_icmp_ne (tgt := 107) hx hb dX5_writeTop_98 (by decide) (fun c => ?_) (fun c => ?_)
          · replace hF := iF c hF
            have hq := Option.some.inj hF
            subst hq
            exact rt_v C X dX5_writeTop_107
          · replace hF := iT c hF
            exact (k_X5_writeTop_101 l D hT aT yT hT_15 aT_15 yT_15) C X (lv_sub hl [1, 3, 0] rfl) hF
      · replace hF := iT c hF
        refine lv_aload_n hx hb dX5_writeTop_70 rfl (lv_at hl 1 rfl) ?_
        obtain ⟨h_8, hF⟩ := grd_some hF
        refine va_get (D := D.1) (ci := 5) (v := .ref hT_15) (C := RX5) (T := TX5) (N := 18) hx hb hts wi_X5 hown X.1 X.2.1 0 rfl rfl 15 (by decide) (hts _ q3_66) (fun _ h9 => h9) ((fl_get (by decide)).trans (rf_eq h_8)) dX5_writeTop_71 ?_
        refine va_getN (D := D.1) (ci := 0) (v := .ref (aT_15 5)) (C := RX0) (T := TX0) (N := 19) hx hb hts wi_X0 hown X.1 X.2.1 5 rfl rfl 5 (by decide) (X.2.2.2.2.2.1.use q1_230 rfl) (fun _ h9 => h9) (fl_get (by decide)) dX5_writeTop_74 ?_
        refine lv_iload_n hx hb dX5_writeTop_77 rfl (lv_at hl 0 rfl) ?_
        refine lv_iload_n hx hb dX5_writeTop_78 rfl (lv_at hl 3 rfl) ?_
        obtain ⟨h_9, hF⟩ := grd_some hF
        refine va_iast (D := D.1) (f := gIA q_4.2 5) hx hb X.1 X.2.1 X.2.2.1 X.2.2.2.1 11 9 rfl rfl (inB_ok h_9) dX5_writeTop_79 (fun H locs hP hD hS => ?_)
        have X : Hx D (tX5 yT ++ (tX0 yT_15)) A s H locs (wX5 hT aT yT gT ++ (wX0 hT_15 aT_15 yT_15 (sIA q_4.2 5 (upd (gIA q_4.2 5) q_4.1.toNatClampNeg v2)))) := Hx_set X (set_r (n := 5) (i := 6) (j := 11) (wG_len rfl) rfl (wG_sIA (i := 5) (k := 5) ndX0 rfl rfl)) hP hD hS
        refine lv_aload_n hx hb dX5_writeTop_80 rfl (lv_at hl 1 rfl) ?_
        refine lv_iload_n hx hb dX5_writeTop_81 rfl (lv_at hl 3 rfl) ?_
        refine lv_iload_n hx hb dX5_writeTop_82 rfl (lv_at hl 0 rfl) ?_
        obtain ⟨q_10, hc_11, hF⟩ := bnd_some hF
        refine cV_v (As := [.int v2, .int q_4.1]) (rest := []) C X (c_X5_skipTo l D hT aT yT hT_15 aT_15 yT_15 gT (sIA q_4.2 5 (upd (gIA q_4.2 5) q_4.1.toNatClampNeg v2)) v2 q_4.1 q_10 hc_11 _) (cwV 2 hts (good_V q4_105 q4_107 q0_19 q1_10 q4_108) rfl rfl rfl (by decide +kernel) ⟨Nat.le_of_ble_eq_true rfl, Nat.le_of_ble_eq_true rfl⟩) (va_recv X.1 X.2.1 (ci := 5) (q0 := 0) rfl rfl) X.1 X.2.1 X.2.2.1 (free_all X) hl.1 rfl rfl (Nat.le_of_ble_eq_true rfl) dX5_writeTop_83 ⟨Nat.le_of_ble_eq_true rfl, Nat.le_of_ble_eq_true rfl⟩ (fun t H1 locs1 ht hB hk hS => ?_)
        have X : Hx D (tX5 yT ++ (tX0 yT_15)) A s H1 locs1 (wX5 hT aT yT gT ++ (wX0 hT_15 aT_15 yT_15 q_10)) := Hx_after_all X ht hB hS
        clear hk hS ht hB
        generalize H1 = H at X ⊢
        generalize locs1 = locs at X ⊢
        refine lv_goto (tgt := 107) hx hb dX5_writeTop_86 (by decide) ?_
        have hq := Option.some.inj hF
        subst hq
        exact rt_v C X dX5_writeTop_107
    · replace hF := iT c hF
      refine lv_aload_n hx hb dX5_writeTop_51 rfl (lv_at hl 1 rfl) ?_
      obtain ⟨h_12, hF⟩ := grd_some hF
      refine va_get (D := D.1) (ci := 5) (v := .ref hT_15) (C := RX5) (T := TX5) (N := 18) hx hb hts wi_X5 hown X.1 X.2.1 0 rfl rfl 15 (by decide) (hts _ q3_66) (fun _ h9 => h9) ((fl_get (by decide)).trans (rf_eq h_12)) dX5_writeTop_52 ?_
      refine va_getN (D := D.1) (ci := 0) (v := .ref (aT_15 2)) (C := RX0) (T := TX0) (N := 19) hx hb hts wi_X0 hown X.1 X.2.1 5 rfl rfl 2 (by decide) (X.2.2.2.2.2.1.use q1_217 rfl) (fun _ h9 => h9) (fl_get (by decide)) dX5_writeTop_55 ?_
      refine lv_iload_n hx hb dX5_writeTop_58 rfl (lv_at hl 0 rfl) ?_
      refine lv_iload_n hx hb dX5_writeTop_59 rfl (lv_at hl 3 rfl) ?_
      obtain ⟨h_13, hF⟩ := grd_some hF
      refine va_iast (D := D.1) (f := gIA q_4.2 2) hx hb X.1 X.2.1 X.2.2.1 X.2.2.2.1 8 6 rfl rfl (inB_ok h_13) dX5_writeTop_60 (fun H locs hP hD hS => ?_)
      have X : Hx D (tX5 yT ++ (tX0 yT_15)) A s H locs (wX5 hT aT yT gT ++ (wX0 hT_15 aT_15 yT_15 (sIA q_4.2 2 (upd (gIA q_4.2 2) q_4.1.toNatClampNeg v2)))) := Hx_set X (set_r (n := 5) (i := 3) (j := 8) (wG_len rfl) rfl (wG_sIA (i := 2) (k := 2) ndX0 rfl rfl)) hP hD hS
      refine lv_goto (tgt := 107) hx hb dX5_writeTop_61 (by decide) ?_
      have hq := Option.some.inj hF
      subst hq
      exact rt_v C X dX5_writeTop_107
  · replace hF := iT c hF
    have hq := Option.some.inj hF
    subst hq
    exact rt_v C X dX5_writeTop_44
set_option maxHeartbeats 4000000 in
set_option maxRecDepth 100000 in
theorem c_X5_writeTop (l : Launch) (D : Dx) (hT : Nat) (aT : Nat → Nat) (yT : Nat → ClassId) (hT_15 : Nat) (aT_15 : Nat → Nat) (yT_15 : Nat → ClassId) (gT : Gs) (gT_15 : Gs) (x0 : Int32) (q : Gs) (hF : f_X5_writeTop hT_15 gT gT_15 x0 = some q) (sz : Nat) : Met l yX5_writeTop (ws_ yX5_writeTop cX5_writeTop 4 none) R_X5_writeTop (PC D (tX5 yT ++ (tX0 yT_15)) [.ref hT, .int x0] (wX5 hT aT yT gT ++ (wX0 hT_15 aT_15 yT_15 gT_15)) sz) (QV D (va_A (wX5 hT aT yT gT ++ (wX0 hT_15 aT_15 yT_15 gT_15)) sz) (wX5 hT aT yT gT ++ (wX0 hT_15 aT_15 yT_15 q))) 0 0 (va_A (wX5 hT aT yT gT ++ (wX0 hT_15 aT_15 yT_15 gT_15)) sz) := by
  refine Met.ofW (cc := cX5_writeTop) (maxL := 4) (ret := none) (by decide) rfl ?_
  intro p e s m args below meth c s₁ B hml hv
  obtain ⟨rfl, hsz, hP, hK, hD, hN⟩ := hv
  subst hsz
  have C : Cx p s m _ meth c cX5_writeTop none 4 RX5 lw_all := Cx_of B hml
  have X := Hx_start hP hK hD hN
  obtain ⟨hx, hb, hr, -, hown, hts, hlk⟩ := id C
  generalize va_A (wX5 hT aT yT gT ++ (wX0 hT_15 aT_15 yT_15 gT_15)) s.heap.size = A at X ⊢
  have hl := lv_entry ([.ref hT, .int x0]) (n := 4) (Nat.le_of_ble_eq_true rfl)
  rw [lg_entry_eq]
  generalize (lg_sl ([.ref hT, .int x0]) ++ List.replicate (4 - (lg_sl ([.ref hT, .int x0])).length) Slot.unset).toArray = ls at hl ⊢
  have hl : lv_has ls 4 [(0, .ref hT), (1, .int x0)] := hl
  unfold f_X5_writeTop at hF
  refine lv_aload_n hx hb dX5_writeTop_0 rfl (lv_at hl 0 rfl) ?_
  refine va_get (D := D.1) (ci := 5) (v := .ref (aT 6)) (C := RX5) (T := TX5) (N := 18) hx hb hts wi_X5 hown X.1 X.2.1 0 rfl rfl 6 (by decide) (hts _ q3_57) (fun _ h9 => h9) (fl_get (by decide)) dX5_writeTop_1 ?_
  refine lv_aload_n hx hb dX5_writeTop_4 rfl (lv_at hl 0 rfl) ?_
  refine va_get (D := D.1) (ci := 5) (v := .int (gI gT 8)) (C := RX5) (T := TX5) (N := 18) hx hb hts wi_X5 hown X.1 X.2.1 0 rfl rfl 8 (by decide) (hts _ q3_59) (fun _ h9 => h9) (fl_get (by decide)) dX5_writeTop_5 ?_
  obtain ⟨h_1, hF⟩ := grd_some hF
  refine va_iald (D := D.1) (f := gIA gT 6) hx hb X.1 X.2.1 3 2 rfl rfl (inB_ok h_1) dX5_writeTop_8 ?_
  refine lv_istore_n (lv' := [(2, .int (gIA gT 6 (gI gT 8).toNatClampNeg)), (0, .ref hT), (1, .int x0)]) hx hb dX5_writeTop_9 rfl hl (by decide) rfl (fun ls hl => ?_)
  refine lv_aload_n hx hb dX5_writeTop_10 rfl (lv_at hl 1 rfl) ?_
  obtain ⟨h_2, hF⟩ := grd_some hF
  refine va_get (D := D.1) (ci := 5) (v := .ref hT_15) (C := RX5) (T := TX5) (N := 18) hx hb hts wi_X5 hown X.1 X.2.1 0 rfl rfl 15 (by decide) (hts _ q3_66) (fun _ h9 => h9) ((fl_get (by decide)).trans (rf_eq h_2)) dX5_writeTop_11 ?_
  refine lv_iload_n hx hb dX5_writeTop_14 rfl (lv_at hl 2 rfl) ?_
  refine lv_bipush (v := (70 : Int32)) hx hb dX5_writeTop_15 (by decide) ?_
  refine lv_icmp_ne (tgt := 25) hx hb dX5_writeTop_17 (by decide) (fun c => ?_) (fun c => ?_)
  · replace hF := iF c hF
    refine lv_iload_n hx hb dX5_writeTop_25 rfl (lv_at hl 2 rfl) ?_
    exact (k_X5_writeTop_26 l D hT aT yT hT_15 aT_15 yT_15) C X (lv_sub hl [1, 2, 0] rfl) hF
  · replace hF := iT c hF
    refine lv_bipush (v := (44 : Int32)) hx hb dX5_writeTop_20 (by decide) ?_
    refine lv_goto (tgt := 26) hx hb dX5_writeTop_22 (by decide) ?_
    exact (k_X5_writeTop_26 l D hT aT yT hT_15 aT_15 yT_15) C X (lv_sub hl [1, 2, 0] rfl) hF

/-! ### X5_closeParts -/
theorem dX5_closeParts_0 : decode cX5_closeParts 0 = .ok (.iconst 1, 1) := by decide +kernel
theorem dX5_closeParts_1 : decode cX5_closeParts 1 = .ok (.istore_n 3, 1) := by decide +kernel
theorem dX5_closeParts_2 : decode cX5_closeParts 2 = .ok (.iconst 0, 1) := by decide +kernel
theorem dX5_closeParts_3 : decode cX5_closeParts 3 = .ok (.istore 4, 2) := by decide +kernel
theorem dX5_closeParts_5 : decode cX5_closeParts 5 = .ok (.iload 4, 2) := by decide +kernel
theorem dX5_closeParts_7 : decode cX5_closeParts 7 = .ok (.sipush 320, 3) := by decide +kernel
theorem dX5_closeParts_10 : decode cX5_closeParts 10 = .ok (.if_icmp .ge 184, 3) := by decide +kernel
theorem dX5_closeParts_13 : decode cX5_closeParts 13 = .ok (.iload_n 3, 1) := by decide +kernel
theorem dX5_closeParts_14 : decode cX5_closeParts 14 = .ok (.ifCond .eq 180, 3) := by decide +kernel
theorem dX5_closeParts_17 : decode cX5_closeParts 17 = .ok (.aload_n 0, 1) := by decide +kernel
theorem dX5_closeParts_18 : decode cX5_closeParts 18 = .ok (.getfield 31, 3) := by decide +kernel
theorem dX5_closeParts_21 : decode cX5_closeParts 21 = .ok (.ifCond .le 173, 3) := by decide +kernel
theorem dX5_closeParts_24 : decode cX5_closeParts 24 = .ok (.aload_n 0, 1) := by decide +kernel
theorem dX5_closeParts_25 : decode cX5_closeParts 25 = .ok (.getfield 18, 3) := by decide +kernel
theorem dX5_closeParts_28 : decode cX5_closeParts 28 = .ok (.aload_n 0, 1) := by decide +kernel
theorem dX5_closeParts_29 : decode cX5_closeParts 29 = .ok (.getfield 31, 3) := by decide +kernel
theorem dX5_closeParts_32 : decode cX5_closeParts 32 = .ok (.iconst 1, 1) := by decide +kernel
theorem dX5_closeParts_33 : decode cX5_closeParts 33 = .ok (.isub, 1) := by decide +kernel
theorem dX5_closeParts_34 : decode cX5_closeParts 34 = .ok (.iaload, 1) := by decide +kernel
theorem dX5_closeParts_35 : decode cX5_closeParts 35 = .ok (.istore 5, 2) := by decide +kernel
theorem dX5_closeParts_37 : decode cX5_closeParts 37 = .ok (.iload 5, 2) := by decide +kernel
theorem dX5_closeParts_39 : decode cX5_closeParts 39 = .ok (.invokestatic 277, 3) := by decide +kernel
theorem dX5_closeParts_42 : decode cX5_closeParts 42 = .ok (.istore 6, 2) := by decide +kernel
theorem dX5_closeParts_44 : decode cX5_closeParts 44 = .ok (.iload 5, 2) := by decide +kernel
theorem dX5_closeParts_46 : decode cX5_closeParts 46 = .ok (.bipush 65, 2) := by decide +kernel
theorem dX5_closeParts_48 : decode cX5_closeParts 48 = .ok (.if_icmp .eq 17, 3) := by decide +kernel
theorem dX5_closeParts_51 : decode cX5_closeParts 51 = .ok (.iload 5, 2) := by decide +kernel
theorem dX5_closeParts_53 : decode cX5_closeParts 53 = .ok (.bipush 54, 2) := by decide +kernel
theorem dX5_closeParts_55 : decode cX5_closeParts 55 = .ok (.if_icmp .eq 10, 3) := by decide +kernel
theorem dX5_closeParts_58 : decode cX5_closeParts 58 = .ok (.iload 5, 2) := by decide +kernel
theorem dX5_closeParts_60 : decode cX5_closeParts 60 = .ok (.bipush 66, 2) := by decide +kernel
theorem dX5_closeParts_62 : decode cX5_closeParts 62 = .ok (.if_icmp .ne 7, 3) := by decide +kernel
theorem dX5_closeParts_65 : decode cX5_closeParts 65 = .ok (.iconst 1, 1) := by decide +kernel
theorem dX5_closeParts_66 : decode cX5_closeParts 66 = .ok (.goto 4, 3) := by decide +kernel
theorem dX5_closeParts_69 : decode cX5_closeParts 69 = .ok (.iconst 0, 1) := by decide +kernel
theorem dX5_closeParts_70 : decode cX5_closeParts 70 = .ok (.istore 7, 2) := by decide +kernel
theorem dX5_closeParts_72 : decode cX5_closeParts 72 = .ok (.iload 5, 2) := by decide +kernel
theorem dX5_closeParts_74 : decode cX5_closeParts 74 = .ok (.bipush 70, 2) := by decide +kernel
theorem dX5_closeParts_76 : decode cX5_closeParts 76 = .ok (.if_icmp .ne 7, 3) := by decide +kernel
theorem dX5_closeParts_79 : decode cX5_closeParts 79 = .ok (.iconst 1, 1) := by decide +kernel
theorem dX5_closeParts_80 : decode cX5_closeParts 80 = .ok (.goto 4, 3) := by decide +kernel
theorem dX5_closeParts_83 : decode cX5_closeParts 83 = .ok (.iconst 0, 1) := by decide +kernel
theorem dX5_closeParts_84 : decode cX5_closeParts 84 = .ok (.istore 8, 2) := by decide +kernel
theorem dX5_closeParts_86 : decode cX5_closeParts 86 = .ok (.iload 6, 2) := by decide +kernel
theorem dX5_closeParts_88 : decode cX5_closeParts 88 = .ok (.iload_n 1, 1) := by decide +kernel
theorem dX5_closeParts_89 : decode cX5_closeParts 89 = .ok (.if_icmp .ne 17, 3) := by decide +kernel
theorem dX5_closeParts_92 : decode cX5_closeParts 92 = .ok (.iload_n 1, 1) := by decide +kernel
theorem dX5_closeParts_93 : decode cX5_closeParts 93 = .ok (.iconst 3, 1) := by decide +kernel
theorem dX5_closeParts_94 : decode cX5_closeParts 94 = .ok (.if_icmp .eq 12, 3) := by decide +kernel
theorem dX5_closeParts_97 : decode cX5_closeParts 97 = .ok (.iload_n 1, 1) := by decide +kernel
theorem dX5_closeParts_98 : decode cX5_closeParts 98 = .ok (.iconst 4, 1) := by decide +kernel
theorem dX5_closeParts_99 : decode cX5_closeParts 99 = .ok (.if_icmp .eq 7, 3) := by decide +kernel
theorem dX5_closeParts_102 : decode cX5_closeParts 102 = .ok (.iconst 1, 1) := by decide +kernel
theorem dX5_closeParts_103 : decode cX5_closeParts 103 = .ok (.goto 4, 3) := by decide +kernel
theorem dX5_closeParts_106 : decode cX5_closeParts 106 = .ok (.iconst 0, 1) := by decide +kernel
theorem dX5_closeParts_107 : decode cX5_closeParts 107 = .ok (.istore 9, 2) := by decide +kernel
theorem dX5_closeParts_109 : decode cX5_closeParts 109 = .ok (.iload 7, 2) := by decide +kernel
theorem dX5_closeParts_111 : decode cX5_closeParts 111 = .ok (.ifCond .ne 27, 3) := by decide +kernel
theorem dX5_closeParts_114 : decode cX5_closeParts 114 = .ok (.iload 8, 2) := by decide +kernel
theorem dX5_closeParts_116 : decode cX5_closeParts 116 = .ok (.ifCond .eq 7, 3) := by decide +kernel
theorem dX5_closeParts_119 : decode cX5_closeParts 119 = .ok (.iload_n 2, 1) := by decide +kernel
theorem dX5_closeParts_120 : decode cX5_closeParts 120 = .ok (.ifCond .ne 18, 3) := by decide +kernel
theorem dX5_closeParts_123 : decode cX5_closeParts 123 = .ok (.iload 6, 2) := by decide +kernel
theorem dX5_closeParts_125 : decode cX5_closeParts 125 = .ok (.iload_n 1, 1) := by decide +kernel
theorem dX5_closeParts_126 : decode cX5_closeParts 126 = .ok (.if_icmp .gt 12, 3) := by decide +kernel
theorem dX5_closeParts_129 : decode cX5_closeParts 129 = .ok (.iload 9, 2) := by decide +kernel
theorem dX5_closeParts_131 : decode cX5_closeParts 131 = .ok (.ifCond .eq 11, 3) := by decide +kernel
theorem dX5_closeParts_134 : decode cX5_closeParts 134 = .ok (.iload_n 1, 1) := by decide +kernel
theorem dX5_closeParts_135 : decode cX5_closeParts 135 = .ok (.ifCond .le 7, 3) := by decide +kernel
theorem dX5_closeParts_138 : decode cX5_closeParts 138 = .ok (.iconst 1, 1) := by decide +kernel
theorem dX5_closeParts_139 : decode cX5_closeParts 139 = .ok (.goto 4, 3) := by decide +kernel
theorem dX5_closeParts_142 : decode cX5_closeParts 142 = .ok (.iconst 0, 1) := by decide +kernel
theorem dX5_closeParts_143 : decode cX5_closeParts 143 = .ok (.istore_n 3, 1) := by decide +kernel
theorem dX5_closeParts_144 : decode cX5_closeParts 144 = .ok (.iload_n 3, 1) := by decide +kernel
theorem dX5_closeParts_145 : decode cX5_closeParts 145 = .ok (.ifCond .eq 43, 3) := by decide +kernel
theorem dX5_closeParts_148 : decode cX5_closeParts 148 = .ok (.aload_n 0, 1) := by decide +kernel
theorem dX5_closeParts_149 : decode cX5_closeParts 149 = .ok (.dup, 1) := by decide +kernel
theorem dX5_closeParts_150 : decode cX5_closeParts 150 = .ok (.getfield 35, 3) := by decide +kernel
theorem dX5_closeParts_153 : decode cX5_closeParts 153 = .ok (.iload 7, 2) := by decide +kernel
theorem dX5_closeParts_155 : decode cX5_closeParts 155 = .ok (.ifCond .ne 8, 3) := by decide +kernel
theorem dX5_closeParts_158 : decode cX5_closeParts 158 = .ok (.iload 8, 2) := by decide +kernel
theorem dX5_closeParts_160 : decode cX5_closeParts 160 = .ok (.ifCond .eq 7, 3) := by decide +kernel
theorem dX5_closeParts_163 : decode cX5_closeParts 163 = .ok (.iconst 1, 1) := by decide +kernel
theorem dX5_closeParts_164 : decode cX5_closeParts 164 = .ok (.goto 4, 3) := by decide +kernel
theorem dX5_closeParts_167 : decode cX5_closeParts 167 = .ok (.iconst 0, 1) := by decide +kernel
theorem dX5_closeParts_168 : decode cX5_closeParts 168 = .ok (.isub, 1) := by decide +kernel
theorem dX5_closeParts_169 : decode cX5_closeParts 169 = .ok (.putfield 35, 3) := by decide +kernel
theorem dX5_closeParts_172 : decode cX5_closeParts 172 = .ok (.aload_n 0, 1) := by decide +kernel
theorem dX5_closeParts_173 : decode cX5_closeParts 173 = .ok (.dup, 1) := by decide +kernel
theorem dX5_closeParts_174 : decode cX5_closeParts 174 = .ok (.getfield 31, 3) := by decide +kernel
theorem dX5_closeParts_177 : decode cX5_closeParts 177 = .ok (.iconst 1, 1) := by decide +kernel
theorem dX5_closeParts_178 : decode cX5_closeParts 178 = .ok (.isub, 1) := by decide +kernel
theorem dX5_closeParts_179 : decode cX5_closeParts 179 = .ok (.putfield 31, 3) := by decide +kernel
theorem dX5_closeParts_182 : decode cX5_closeParts 182 = .ok (.aload_n 0, 1) := by decide +kernel
theorem dX5_closeParts_183 : decode cX5_closeParts 183 = .ok (.iload 5, 2) := by decide +kernel
theorem dX5_closeParts_185 : decode cX5_closeParts 185 = .ok (.invokevirtual 302, 3) := by decide +kernel
theorem dX5_closeParts_188 : decode cX5_closeParts 188 = .ok (.iinc 4 1, 3) := by decide +kernel
theorem dX5_closeParts_191 : decode cX5_closeParts 191 = .ok (.goto (-186), 3) := by decide +kernel
theorem dX5_closeParts_194 : decode cX5_closeParts 194 = .ok (.return_, 1) := by decide +kernel
abbrev R_X5_closeParts : Room := ({ frames := 2, cells := 0, slots := 0, locals := 46 } : Room)
def b_X5_closeParts_188 (n : Nat) (hT_15 : Nat) (rec : (Gs → Gs → Int32 → Int32 → Int32 → Int32 → Option (Gs × Gs))) (gT : Gs) (gT_15 : Gs) (v1 : Int32) (v2 : Int32) (v3 : Int32) (v4 : Int32) : Option (Gs × Gs) :=
  rec gT gT_15 v1 v2 v3 (v4 + (1 : Int32))
def b_X5_closeParts_168 (n : Nat) (hT_15 : Nat) (rec : (Gs → Gs → Int32 → Int32 → Int32 → Int32 → Option (Gs × Gs))) (gT : Gs) (gT_15 : Gs) (v1 : Int32) (v2 : Int32) (v3 : Int32) (v4 : Int32) (v5 : Int32) (s0 : Int32) (s1 : Int32) : Option (Gs × Gs) :=
  bnd (f_X5_writeTop hT_15 (sI (sI gT 9 (s1 - s0)) 8 ((gI gT 8) - (1 : Int32))) gT_15 v5) (fun q_4 => b_X5_closeParts_188 n hT_15 rec (sI (sI gT 9 (s1 - s0)) 8 ((gI gT 8) - (1 : Int32))) q_4 v1 v2 v3 v4)
def b_X5_closeParts_163 (n : Nat) (hT_15 : Nat) (rec : (Gs → Gs → Int32 → Int32 → Int32 → Int32 → Option (Gs × Gs))) (gT : Gs) (gT_15 : Gs) (v1 : Int32) (v2 : Int32) (v3 : Int32) (v4 : Int32) (v5 : Int32) (s0 : Int32) : Option (Gs × Gs) :=
  b_X5_closeParts_168 n hT_15 rec gT gT_15 v1 v2 v3 v4 v5 (1 : Int32) s0
def b_X5_closeParts_143 (n : Nat) (hT_15 : Nat) (rec : (Gs → Gs → Int32 → Int32 → Int32 → Int32 → Option (Gs × Gs))) (gT : Gs) (gT_15 : Gs) (v1 : Int32) (v2 : Int32) (v4 : Int32) (v5 : Int32) (v7 : Int32) (v8 : Int32) (s0 : Int32) : Option (Gs × Gs) :=
  if s0 = 0 then (b_X5_closeParts_188 n hT_15 rec gT gT_15 v1 v2 s0 v4) else (if v7 = 0 then (if v8 = 0 then (b_X5_closeParts_168 n hT_15 rec gT gT_15 v1 v2 s0 v4 v5 (0 : Int32) (gI gT 9)) else (b_X5_closeParts_163 n hT_15 rec gT gT_15 v1 v2 s0 v4 v5 (gI gT 9))) else (b_X5_closeParts_163 n hT_15 rec gT gT_15 v1 v2 s0 v4 v5 (gI gT 9)))
def b_X5_closeParts_138 (n : Nat) (hT_15 : Nat) (rec : (Gs → Gs → Int32 → Int32 → Int32 → Int32 → Option (Gs × Gs))) (gT : Gs) (gT_15 : Gs) (v1 : Int32) (v2 : Int32) (v4 : Int32) (v5 : Int32) (v7 : Int32) (v8 : Int32) : Option (Gs × Gs) :=
  b_X5_closeParts_143 n hT_15 rec gT gT_15 v1 v2 v4 v5 v7 v8 (1 : Int32)
def b_X5_closeParts_142 (n : Nat) (hT_15 : Nat) (rec : (Gs → Gs → Int32 → Int32 → Int32 → Int32 → Option (Gs × Gs))) (gT : Gs) (gT_15 : Gs) (v1 : Int32) (v2 : Int32) (v4 : Int32) (v5 : Int32) (v7 : Int32) (v8 : Int32) : Option (Gs × Gs) :=
  b_X5_closeParts_143 n hT_15 rec gT gT_15 v1 v2 v4 v5 v7 v8 (0 : Int32)
def b_X5_closeParts_123 (n : Nat) (hT_15 : Nat) (rec : (Gs → Gs → Int32 → Int32 → Int32 → Int32 → Option (Gs × Gs))) (gT : Gs) (gT_15 : Gs) (v1 : Int32) (v2 : Int32) (v4 : Int32) (v5 : Int32) (v6 : Int32) (v7 : Int32) (v8 : Int32) (v9 : Int32) : Option (Gs × Gs) :=
  if v1 < v6 then (b_X5_closeParts_138 n hT_15 rec gT gT_15 v1 v2 v4 v5 v7 v8) else (if v9 = 0 then (b_X5_closeParts_142 n hT_15 rec gT gT_15 v1 v2 v4 v5 v7 v8) else (if v1 ≤ 0 then (b_X5_closeParts_142 n hT_15 rec gT gT_15 v1 v2 v4 v5 v7 v8) else (b_X5_closeParts_138 n hT_15 rec gT gT_15 v1 v2 v4 v5 v7 v8)))
def b_X5_closeParts_107 (n : Nat) (hT_15 : Nat) (rec : (Gs → Gs → Int32 → Int32 → Int32 → Int32 → Option (Gs × Gs))) (gT : Gs) (gT_15 : Gs) (v1 : Int32) (v2 : Int32) (v4 : Int32) (v5 : Int32) (v6 : Int32) (v7 : Int32) (v8 : Int32) (s0 : Int32) : Option (Gs × Gs) :=
  if v7 = 0 then (if v8 = 0 then (b_X5_closeParts_123 n hT_15 rec gT gT_15 v1 v2 v4 v5 v6 v7 v8 s0) else (if v2 = 0 then (b_X5_closeParts_123 n hT_15 rec gT gT_15 v1 v2 v4 v5 v6 v7 v8 s0) else (b_X5_closeParts_138 n hT_15 rec gT gT_15 v1 v2 v4 v5 v7 v8))) else (b_X5_closeParts_138 n hT_15 rec gT gT_15 v1 v2 v4 v5 v7 v8)
def b_X5_closeParts_106 (n : Nat) (hT_15 : Nat) (rec : (Gs → Gs → Int32 → Int32 → Int32 → Int32 → Option (Gs × Gs))) (gT : Gs) (gT_15 : Gs) (v1 : Int32) (v2 : Int32) (v4 : Int32) (v5 : Int32) (v6 : Int32) (v7 : Int32) (v8 : Int32) : Option (Gs × Gs) :=
  b_X5_closeParts_107 n hT_15 rec gT gT_15 v1 v2 v4 v5 v6 v7 v8 (0 : Int32)
def b_X5_closeParts_84 (n : Nat) (hT_15 : Nat) (rec : (Gs → Gs → Int32 → Int32 → Int32 → Int32 → Option (Gs × Gs))) (gT : Gs) (gT_15 : Gs) (v1 : Int32) (v2 : Int32) (v4 : Int32) (v5 : Int32) (v6 : Int32) (v7 : Int32) (s0 : Int32) : Option (Gs × Gs) :=
  if v6 = v1 then (if v1 = (3 : Int32) then (b_X5_closeParts_106 n hT_15 rec gT gT_15 v1 v2 v4 v5 v6 v7 s0) else (if v1 = (4 : Int32) then (b_X5_closeParts_106 n hT_15 rec gT gT_15 v1 v2 v4 v5 v6 v7 s0) else (b_X5_closeParts_107 n hT_15 rec gT gT_15 v1 v2 v4 v5 v6 v7 s0 (1 : Int32)))) else (b_X5_closeParts_106 n hT_15 rec gT gT_15 v1 v2 v4 v5 v6 v7 s0)
def b_X5_closeParts_70 (n : Nat) (hT_15 : Nat) (rec : (Gs → Gs → Int32 → Int32 → Int32 → Int32 → Option (Gs × Gs))) (gT : Gs) (gT_15 : Gs) (v1 : Int32) (v2 : Int32) (v4 : Int32) (v5 : Int32) (v6 : Int32) (s0 : Int32) : Option (Gs × Gs) :=
  if v5 = (70 : Int32) then (b_X5_closeParts_84 n hT_15 rec gT gT_15 v1 v2 v4 v5 v6 s0 (1 : Int32)) else (b_X5_closeParts_84 n hT_15 rec gT gT_15 v1 v2 v4 v5 v6 s0 (0 : Int32))
def b_X5_closeParts_65 (n : Nat) (hT_15 : Nat) (rec : (Gs → Gs → Int32 → Int32 → Int32 → Int32 → Option (Gs × Gs))) (gT : Gs) (gT_15 : Gs) (v1 : Int32) (v2 : Int32) (v4 : Int32) (v5 : Int32) (v6 : Int32) : Option (Gs × Gs) :=
  b_X5_closeParts_70 n hT_15 rec gT gT_15 v1 v2 v4 v5 v6 (1 : Int32)
def h_X5_closeParts_5 (n : Nat) (hT_15 : Nat) (rec : (Gs → Gs → Int32 → Int32 → Int32 → Int32 → Option (Gs × Gs))) (gT : Gs) (gT_15 : Gs) (v1 : Int32) (v2 : Int32) (v3 : Int32) (v4 : Int32) : Option (Gs × Gs) :=
  if (320 : Int32) ≤ v4 then (some (gT, gT_15)) else (if v3 = 0 then (some (gT, gT_15)) else (if (gI gT 8) ≤ 0 then (some (gT, gT_15)) else (grd (inB ((gI gT 8) - (1 : Int32)) 320) (bnd (f_X5_rankOf (gIA gT 4 ((gI gT 8) - (1 : Int32)).toNatClampNeg)) (fun q_2 => if (gIA gT 4 ((gI gT 8) - (1 : Int32)).toNatClampNeg) = (65 : Int32) then (b_X5_closeParts_65 n hT_15 rec gT gT_15 v1 v2 v4 (gIA gT 4 ((gI gT 8) - (1 : Int32)).toNatClampNeg) q_2) else (if (gIA gT 4 ((gI gT 8) - (1 : Int32)).toNatClampNeg) = (54 : Int32) then (b_X5_closeParts_65 n hT_15 rec gT gT_15 v1 v2 v4 (gIA gT 4 ((gI gT 8) - (1 : Int32)).toNatClampNeg) q_2) else (if (gIA gT 4 ((gI gT 8) - (1 : Int32)).toNatClampNeg) = (66 : Int32) then (b_X5_closeParts_65 n hT_15 rec gT gT_15 v1 v2 v4 (gIA gT 4 ((gI gT 8) - (1 : Int32)).toNatClampNeg) q_2) else (b_X5_closeParts_70 n hT_15 rec gT gT_15 v1 v2 v4 (gIA gT 4 ((gI gT 8) - (1 : Int32)).toNatClampNeg) q_2 (0 : Int32)))))))))
def L_X5_closeParts (n : Nat) (hT_15 : Nat) : Nat → (Gs → Gs → Int32 → Int32 → Int32 → Int32 → Option (Gs × Gs))
  | 0 => ((fun _ _ _ _ _ _ => none))
  | k + 1 => (h_X5_closeParts_5 n hT_15 (L_X5_closeParts n hT_15 k))
def f_X5_closeParts (n : Nat) (hT_15 : Nat) (gT : Gs) (gT_15 : Gs) (x0 : Int32) (x1 : Int32) : Option (Gs × Gs) :=
  (L_X5_closeParts n hT_15 n) gT gT_15 x0 x1 (1 : Int32) (0 : Int32)
def S_X5_closeParts_188 (l : Launch) (D : Dx) (hT : Nat) (aT : Nat → Nat) (yT : Nat → ClassId) (hT_15 : Nat) (aT_15 : Nat → Nat) (yT_15 : Nat → ClassId) (fn : Gs → Gs → Int32 → Int32 → Int32 → Int32 → Option (Gs × Gs)) : Prop :=
  ∀ {p : Program} {e : Env} {s : State} {m : MethodId} {args : Array Value} {below : List Frame} {meth : Method} {c : Code} {H : Heap} {locs : List Loc} {A : Nat → Prop} {ls : Array Slot} {gT : Gs} {gT_15 : Gs} {v1 : Int32} {v2 : Int32} {v3 : Int32} {v4 : Int32} {q : Gs × Gs}, Cx p s m args meth c cX5_closeParts none 10 RX5 lw_all → Hx D (tX5 yT ++ (tX0 yT_15)) A s H locs (wX5 hT aT yT gT ++ (wX0 hT_15 aT_15 yT_15 gT_15)) → lv_has ls 10 [(0, .ref hT), (1, .int v1), (2, .int v2), (3, .int v3), (4, .int v4)] → fn gT gT_15 v1 v2 v3 v4 = some q → W p l e R_X5_closeParts s m args below meth c H locs 0 0 (MQ below (QV D A (wX5 hT aT yT q.1 ++ (wX0 hT_15 aT_15 yT_15 q.2))) args s 0 0 A) (F0 m 188 ls [])
def S_X5_closeParts_168 (l : Launch) (D : Dx) (hT : Nat) (aT : Nat → Nat) (yT : Nat → ClassId) (hT_15 : Nat) (aT_15 : Nat → Nat) (yT_15 : Nat → ClassId) (fn : Gs → Gs → Int32 → Int32 → Int32 → Int32 → Int32 → Int32 → Int32 → Option (Gs × Gs)) : Prop :=
  ∀ {p : Program} {e : Env} {s : State} {m : MethodId} {args : Array Value} {below : List Frame} {meth : Method} {c : Code} {H : Heap} {locs : List Loc} {A : Nat → Prop} {ls : Array Slot} {gT : Gs} {gT_15 : Gs} {v1 : Int32} {v2 : Int32} {v3 : Int32} {v4 : Int32} {v5 : Int32} {s0 : Int32} {s1 : Int32} {q : Gs × Gs}, Cx p s m args meth c cX5_closeParts none 10 RX5 lw_all → Hx D (tX5 yT ++ (tX0 yT_15)) A s H locs (wX5 hT aT yT gT ++ (wX0 hT_15 aT_15 yT_15 gT_15)) → lv_has ls 10 [(0, .ref hT), (1, .int v1), (2, .int v2), (3, .int v3), (4, .int v4), (5, .int v5)] → fn gT gT_15 v1 v2 v3 v4 v5 s0 s1 = some q → W p l e R_X5_closeParts s m args below meth c H locs 0 0 (MQ below (QV D A (wX5 hT aT yT q.1 ++ (wX0 hT_15 aT_15 yT_15 q.2))) args s 0 0 A) (F0 m 168 ls [.int s0, .int s1, .ref hT])
def S_X5_closeParts_163 (l : Launch) (D : Dx) (hT : Nat) (aT : Nat → Nat) (yT : Nat → ClassId) (hT_15 : Nat) (aT_15 : Nat → Nat) (yT_15 : Nat → ClassId) (fn : Gs → Gs → Int32 → Int32 → Int32 → Int32 → Int32 → Int32 → Option (Gs × Gs)) : Prop :=
  ∀ {p : Program} {e : Env} {s : State} {m : MethodId} {args : Array Value} {below : List Frame} {meth : Method} {c : Code} {H : Heap} {locs : List Loc} {A : Nat → Prop} {ls : Array Slot} {gT : Gs} {gT_15 : Gs} {v1 : Int32} {v2 : Int32} {v3 : Int32} {v4 : Int32} {v5 : Int32} {s0 : Int32} {q : Gs × Gs}, Cx p s m args meth c cX5_closeParts none 10 RX5 lw_all → Hx D (tX5 yT ++ (tX0 yT_15)) A s H locs (wX5 hT aT yT gT ++ (wX0 hT_15 aT_15 yT_15 gT_15)) → lv_has ls 10 [(0, .ref hT), (1, .int v1), (2, .int v2), (3, .int v3), (4, .int v4), (5, .int v5)] → fn gT gT_15 v1 v2 v3 v4 v5 s0 = some q → W p l e R_X5_closeParts s m args below meth c H locs 0 0 (MQ below (QV D A (wX5 hT aT yT q.1 ++ (wX0 hT_15 aT_15 yT_15 q.2))) args s 0 0 A) (F0 m 163 ls [.int s0, .ref hT])
def S_X5_closeParts_143 (l : Launch) (D : Dx) (hT : Nat) (aT : Nat → Nat) (yT : Nat → ClassId) (hT_15 : Nat) (aT_15 : Nat → Nat) (yT_15 : Nat → ClassId) (fn : Gs → Gs → Int32 → Int32 → Int32 → Int32 → Int32 → Int32 → Int32 → Option (Gs × Gs)) : Prop :=
  ∀ {p : Program} {e : Env} {s : State} {m : MethodId} {args : Array Value} {below : List Frame} {meth : Method} {c : Code} {H : Heap} {locs : List Loc} {A : Nat → Prop} {ls : Array Slot} {gT : Gs} {gT_15 : Gs} {v1 : Int32} {v2 : Int32} {v4 : Int32} {v5 : Int32} {v7 : Int32} {v8 : Int32} {s0 : Int32} {q : Gs × Gs}, Cx p s m args meth c cX5_closeParts none 10 RX5 lw_all → Hx D (tX5 yT ++ (tX0 yT_15)) A s H locs (wX5 hT aT yT gT ++ (wX0 hT_15 aT_15 yT_15 gT_15)) → lv_has ls 10 [(0, .ref hT), (1, .int v1), (2, .int v2), (4, .int v4), (5, .int v5), (7, .int v7), (8, .int v8)] → fn gT gT_15 v1 v2 v4 v5 v7 v8 s0 = some q → W p l e R_X5_closeParts s m args below meth c H locs 0 0 (MQ below (QV D A (wX5 hT aT yT q.1 ++ (wX0 hT_15 aT_15 yT_15 q.2))) args s 0 0 A) (F0 m 143 ls [.int s0])
def S_X5_closeParts_138 (l : Launch) (D : Dx) (hT : Nat) (aT : Nat → Nat) (yT : Nat → ClassId) (hT_15 : Nat) (aT_15 : Nat → Nat) (yT_15 : Nat → ClassId) (fn : Gs → Gs → Int32 → Int32 → Int32 → Int32 → Int32 → Int32 → Option (Gs × Gs)) : Prop :=
  ∀ {p : Program} {e : Env} {s : State} {m : MethodId} {args : Array Value} {below : List Frame} {meth : Method} {c : Code} {H : Heap} {locs : List Loc} {A : Nat → Prop} {ls : Array Slot} {gT : Gs} {gT_15 : Gs} {v1 : Int32} {v2 : Int32} {v4 : Int32} {v5 : Int32} {v7 : Int32} {v8 : Int32} {q : Gs × Gs}, Cx p s m args meth c cX5_closeParts none 10 RX5 lw_all → Hx D (tX5 yT ++ (tX0 yT_15)) A s H locs (wX5 hT aT yT gT ++ (wX0 hT_15 aT_15 yT_15 gT_15)) → lv_has ls 10 [(0, .ref hT), (1, .int v1), (2, .int v2), (4, .int v4), (5, .int v5), (7, .int v7), (8, .int v8)] → fn gT gT_15 v1 v2 v4 v5 v7 v8 = some q → W p l e R_X5_closeParts s m args below meth c H locs 0 0 (MQ below (QV D A (wX5 hT aT yT q.1 ++ (wX0 hT_15 aT_15 yT_15 q.2))) args s 0 0 A) (F0 m 138 ls [])
def S_X5_closeParts_142 (l : Launch) (D : Dx) (hT : Nat) (aT : Nat → Nat) (yT : Nat → ClassId) (hT_15 : Nat) (aT_15 : Nat → Nat) (yT_15 : Nat → ClassId) (fn : Gs → Gs → Int32 → Int32 → Int32 → Int32 → Int32 → Int32 → Option (Gs × Gs)) : Prop :=
  ∀ {p : Program} {e : Env} {s : State} {m : MethodId} {args : Array Value} {below : List Frame} {meth : Method} {c : Code} {H : Heap} {locs : List Loc} {A : Nat → Prop} {ls : Array Slot} {gT : Gs} {gT_15 : Gs} {v1 : Int32} {v2 : Int32} {v4 : Int32} {v5 : Int32} {v7 : Int32} {v8 : Int32} {q : Gs × Gs}, Cx p s m args meth c cX5_closeParts none 10 RX5 lw_all → Hx D (tX5 yT ++ (tX0 yT_15)) A s H locs (wX5 hT aT yT gT ++ (wX0 hT_15 aT_15 yT_15 gT_15)) → lv_has ls 10 [(0, .ref hT), (1, .int v1), (2, .int v2), (4, .int v4), (5, .int v5), (7, .int v7), (8, .int v8)] → fn gT gT_15 v1 v2 v4 v5 v7 v8 = some q → W p l e R_X5_closeParts s m args below meth c H locs 0 0 (MQ below (QV D A (wX5 hT aT yT q.1 ++ (wX0 hT_15 aT_15 yT_15 q.2))) args s 0 0 A) (F0 m 142 ls [])
def S_X5_closeParts_123 (l : Launch) (D : Dx) (hT : Nat) (aT : Nat → Nat) (yT : Nat → ClassId) (hT_15 : Nat) (aT_15 : Nat → Nat) (yT_15 : Nat → ClassId) (fn : Gs → Gs → Int32 → Int32 → Int32 → Int32 → Int32 → Int32 → Int32 → Int32 → Option (Gs × Gs)) : Prop :=
  ∀ {p : Program} {e : Env} {s : State} {m : MethodId} {args : Array Value} {below : List Frame} {meth : Method} {c : Code} {H : Heap} {locs : List Loc} {A : Nat → Prop} {ls : Array Slot} {gT : Gs} {gT_15 : Gs} {v1 : Int32} {v2 : Int32} {v4 : Int32} {v5 : Int32} {v6 : Int32} {v7 : Int32} {v8 : Int32} {v9 : Int32} {q : Gs × Gs}, Cx p s m args meth c cX5_closeParts none 10 RX5 lw_all → Hx D (tX5 yT ++ (tX0 yT_15)) A s H locs (wX5 hT aT yT gT ++ (wX0 hT_15 aT_15 yT_15 gT_15)) → lv_has ls 10 [(0, .ref hT), (1, .int v1), (2, .int v2), (4, .int v4), (5, .int v5), (6, .int v6), (7, .int v7), (8, .int v8), (9, .int v9)] → fn gT gT_15 v1 v2 v4 v5 v6 v7 v8 v9 = some q → W p l e R_X5_closeParts s m args below meth c H locs 0 0 (MQ below (QV D A (wX5 hT aT yT q.1 ++ (wX0 hT_15 aT_15 yT_15 q.2))) args s 0 0 A) (F0 m 123 ls [])
def S_X5_closeParts_107 (l : Launch) (D : Dx) (hT : Nat) (aT : Nat → Nat) (yT : Nat → ClassId) (hT_15 : Nat) (aT_15 : Nat → Nat) (yT_15 : Nat → ClassId) (fn : Gs → Gs → Int32 → Int32 → Int32 → Int32 → Int32 → Int32 → Int32 → Int32 → Option (Gs × Gs)) : Prop :=
  ∀ {p : Program} {e : Env} {s : State} {m : MethodId} {args : Array Value} {below : List Frame} {meth : Method} {c : Code} {H : Heap} {locs : List Loc} {A : Nat → Prop} {ls : Array Slot} {gT : Gs} {gT_15 : Gs} {v1 : Int32} {v2 : Int32} {v4 : Int32} {v5 : Int32} {v6 : Int32} {v7 : Int32} {v8 : Int32} {s0 : Int32} {q : Gs × Gs}, Cx p s m args meth c cX5_closeParts none 10 RX5 lw_all → Hx D (tX5 yT ++ (tX0 yT_15)) A s H locs (wX5 hT aT yT gT ++ (wX0 hT_15 aT_15 yT_15 gT_15)) → lv_has ls 10 [(0, .ref hT), (1, .int v1), (2, .int v2), (4, .int v4), (5, .int v5), (6, .int v6), (7, .int v7), (8, .int v8)] → fn gT gT_15 v1 v2 v4 v5 v6 v7 v8 s0 = some q → W p l e R_X5_closeParts s m args below meth c H locs 0 0 (MQ below (QV D A (wX5 hT aT yT q.1 ++ (wX0 hT_15 aT_15 yT_15 q.2))) args s 0 0 A) (F0 m 107 ls [.int s0])
def S_X5_closeParts_106 (l : Launch) (D : Dx) (hT : Nat) (aT : Nat → Nat) (yT : Nat → ClassId) (hT_15 : Nat) (aT_15 : Nat → Nat) (yT_15 : Nat → ClassId) (fn : Gs → Gs → Int32 → Int32 → Int32 → Int32 → Int32 → Int32 → Int32 → Option (Gs × Gs)) : Prop :=
  ∀ {p : Program} {e : Env} {s : State} {m : MethodId} {args : Array Value} {below : List Frame} {meth : Method} {c : Code} {H : Heap} {locs : List Loc} {A : Nat → Prop} {ls : Array Slot} {gT : Gs} {gT_15 : Gs} {v1 : Int32} {v2 : Int32} {v4 : Int32} {v5 : Int32} {v6 : Int32} {v7 : Int32} {v8 : Int32} {q : Gs × Gs}, Cx p s m args meth c cX5_closeParts none 10 RX5 lw_all → Hx D (tX5 yT ++ (tX0 yT_15)) A s H locs (wX5 hT aT yT gT ++ (wX0 hT_15 aT_15 yT_15 gT_15)) → lv_has ls 10 [(0, .ref hT), (1, .int v1), (2, .int v2), (4, .int v4), (5, .int v5), (6, .int v6), (7, .int v7), (8, .int v8)] → fn gT gT_15 v1 v2 v4 v5 v6 v7 v8 = some q → W p l e R_X5_closeParts s m args below meth c H locs 0 0 (MQ below (QV D A (wX5 hT aT yT q.1 ++ (wX0 hT_15 aT_15 yT_15 q.2))) args s 0 0 A) (F0 m 106 ls [])
def S_X5_closeParts_84 (l : Launch) (D : Dx) (hT : Nat) (aT : Nat → Nat) (yT : Nat → ClassId) (hT_15 : Nat) (aT_15 : Nat → Nat) (yT_15 : Nat → ClassId) (fn : Gs → Gs → Int32 → Int32 → Int32 → Int32 → Int32 → Int32 → Int32 → Option (Gs × Gs)) : Prop :=
  ∀ {p : Program} {e : Env} {s : State} {m : MethodId} {args : Array Value} {below : List Frame} {meth : Method} {c : Code} {H : Heap} {locs : List Loc} {A : Nat → Prop} {ls : Array Slot} {gT : Gs} {gT_15 : Gs} {v1 : Int32} {v2 : Int32} {v4 : Int32} {v5 : Int32} {v6 : Int32} {v7 : Int32} {s0 : Int32} {q : Gs × Gs}, Cx p s m args meth c cX5_closeParts none 10 RX5 lw_all → Hx D (tX5 yT ++ (tX0 yT_15)) A s H locs (wX5 hT aT yT gT ++ (wX0 hT_15 aT_15 yT_15 gT_15)) → lv_has ls 10 [(0, .ref hT), (1, .int v1), (2, .int v2), (4, .int v4), (5, .int v5), (6, .int v6), (7, .int v7)] → fn gT gT_15 v1 v2 v4 v5 v6 v7 s0 = some q → W p l e R_X5_closeParts s m args below meth c H locs 0 0 (MQ below (QV D A (wX5 hT aT yT q.1 ++ (wX0 hT_15 aT_15 yT_15 q.2))) args s 0 0 A) (F0 m 84 ls [.int s0])
def S_X5_closeParts_70 (l : Launch) (D : Dx) (hT : Nat) (aT : Nat → Nat) (yT : Nat → ClassId) (hT_15 : Nat) (aT_15 : Nat → Nat) (yT_15 : Nat → ClassId) (fn : Gs → Gs → Int32 → Int32 → Int32 → Int32 → Int32 → Int32 → Option (Gs × Gs)) : Prop :=
  ∀ {p : Program} {e : Env} {s : State} {m : MethodId} {args : Array Value} {below : List Frame} {meth : Method} {c : Code} {H : Heap} {locs : List Loc} {A : Nat → Prop} {ls : Array Slot} {gT : Gs} {gT_15 : Gs} {v1 : Int32} {v2 : Int32} {v4 : Int32} {v5 : Int32} {v6 : Int32} {s0 : Int32} {q : Gs × Gs}, Cx p s m args meth c cX5_closeParts none 10 RX5 lw_all → Hx D (tX5 yT ++ (tX0 yT_15)) A s H locs (wX5 hT aT yT gT ++ (wX0 hT_15 aT_15 yT_15 gT_15)) → lv_has ls 10 [(0, .ref hT), (1, .int v1), (2, .int v2), (4, .int v4), (5, .int v5), (6, .int v6)] → fn gT gT_15 v1 v2 v4 v5 v6 s0 = some q → W p l e R_X5_closeParts s m args below meth c H locs 0 0 (MQ below (QV D A (wX5 hT aT yT q.1 ++ (wX0 hT_15 aT_15 yT_15 q.2))) args s 0 0 A) (F0 m 70 ls [.int s0])
def S_X5_closeParts_65 (l : Launch) (D : Dx) (hT : Nat) (aT : Nat → Nat) (yT : Nat → ClassId) (hT_15 : Nat) (aT_15 : Nat → Nat) (yT_15 : Nat → ClassId) (fn : Gs → Gs → Int32 → Int32 → Int32 → Int32 → Int32 → Option (Gs × Gs)) : Prop :=
  ∀ {p : Program} {e : Env} {s : State} {m : MethodId} {args : Array Value} {below : List Frame} {meth : Method} {c : Code} {H : Heap} {locs : List Loc} {A : Nat → Prop} {ls : Array Slot} {gT : Gs} {gT_15 : Gs} {v1 : Int32} {v2 : Int32} {v4 : Int32} {v5 : Int32} {v6 : Int32} {q : Gs × Gs}, Cx p s m args meth c cX5_closeParts none 10 RX5 lw_all → Hx D (tX5 yT ++ (tX0 yT_15)) A s H locs (wX5 hT aT yT gT ++ (wX0 hT_15 aT_15 yT_15 gT_15)) → lv_has ls 10 [(0, .ref hT), (1, .int v1), (2, .int v2), (4, .int v4), (5, .int v5), (6, .int v6)] → fn gT gT_15 v1 v2 v4 v5 v6 = some q → W p l e R_X5_closeParts s m args below meth c H locs 0 0 (MQ below (QV D A (wX5 hT aT yT q.1 ++ (wX0 hT_15 aT_15 yT_15 q.2))) args s 0 0 A) (F0 m 65 ls [])
def S_X5_closeParts_5 (l : Launch) (D : Dx) (hT : Nat) (aT : Nat → Nat) (yT : Nat → ClassId) (hT_15 : Nat) (aT_15 : Nat → Nat) (yT_15 : Nat → ClassId) (fn : Gs → Gs → Int32 → Int32 → Int32 → Int32 → Option (Gs × Gs)) : Prop :=
  ∀ {p : Program} {e : Env} {s : State} {m : MethodId} {args : Array Value} {below : List Frame} {meth : Method} {c : Code} {H : Heap} {locs : List Loc} {A : Nat → Prop} {ls : Array Slot} {gT : Gs} {gT_15 : Gs} {v1 : Int32} {v2 : Int32} {v3 : Int32} {v4 : Int32} {q : Gs × Gs}, Cx p s m args meth c cX5_closeParts none 10 RX5 lw_all → Hx D (tX5 yT ++ (tX0 yT_15)) A s H locs (wX5 hT aT yT gT ++ (wX0 hT_15 aT_15 yT_15 gT_15)) → lv_has ls 10 [(0, .ref hT), (1, .int v1), (2, .int v2), (3, .int v3), (4, .int v4)] → fn gT gT_15 v1 v2 v3 v4 = some q → W p l e R_X5_closeParts s m args below meth c H locs 0 0 (MQ below (QV D A (wX5 hT aT yT q.1 ++ (wX0 hT_15 aT_15 yT_15 q.2))) args s 0 0 A) (F0 m 5 ls [])
def SH_X5_closeParts (l : Launch) (D : Dx) (hT : Nat) (aT : Nat → Nat) (yT : Nat → ClassId) (hT_15 : Nat) (aT_15 : Nat → Nat) (yT_15 : Nat → ClassId) (rec : (Gs → Gs → Int32 → Int32 → Int32 → Int32 → Option (Gs × Gs))) : Prop := S_X5_closeParts_5 l D hT aT yT hT_15 aT_15 yT_15 rec
set_option maxHeartbeats 4000000 in
set_option maxRecDepth 100000 in
theorem k_X5_closeParts_188 (l : Launch) (D : Dx) (hT : Nat) (aT : Nat → Nat) (yT : Nat → ClassId) (hT_15 : Nat) (aT_15 : Nat → Nat) (yT_15 : Nat → ClassId) (n : Nat) (rec : (Gs → Gs → Int32 → Int32 → Int32 → Int32 → Option (Gs × Gs))) (IH : SH_X5_closeParts l D hT aT yT hT_15 aT_15 yT_15 rec) : S_X5_closeParts_188 l D hT aT yT hT_15 aT_15 yT_15 (b_X5_closeParts_188 n hT_15 rec) := by
  intro p e s m args below meth c H locs A ls gT gT_15 v1 v2 v3 v4 q C X hl hF
  obtain ⟨hx, hb, hr, hml, hown, hts, hlk⟩ := id C
  unfold b_X5_closeParts_188 at hF
  refine lv_iinc (v := v4 + (1 : Int32)) (lv' := [(4, .int (v4 + (1 : Int32))), (0, .ref hT), (1, .int v1), (2, .int v2), (3, .int v3)]) hx hb dX5_closeParts_188 hl (k := 4) rfl rfl (by decide) rfl (fun ls hl => ?_)
  refine lv_goto (tgt := 5) hx hb dX5_closeParts_191 (by decide) ?_
  exact IH C X (lv_sub hl [1, 2, 3, 4, 0] rfl) hF
set_option maxHeartbeats 4000000 in
set_option maxRecDepth 100000 in
theorem k_X5_closeParts_168 (l : Launch) (D : Dx) (hT : Nat) (aT : Nat → Nat) (yT : Nat → ClassId) (hT_15 : Nat) (aT_15 : Nat → Nat) (yT_15 : Nat → ClassId) (n : Nat) (rec : (Gs → Gs → Int32 → Int32 → Int32 → Int32 → Option (Gs × Gs))) (IH : SH_X5_closeParts l D hT aT yT hT_15 aT_15 yT_15 rec) : S_X5_closeParts_168 l D hT aT yT hT_15 aT_15 yT_15 (b_X5_closeParts_168 n hT_15 rec) := by
  intro p e s m args below meth c H locs A ls gT gT_15 v1 v2 v3 v4 v5 s0 s1 q C X hl hF
  obtain ⟨hx, hb, hr, hml, hown, hts, hlk⟩ := id C
  unfold b_X5_closeParts_168 at hF
  refine lv_isub hx hb dX5_closeParts_168 ?_
  refine va_put (D := D.1) (ci := 5) (v := .int (s1 - s0)) (ty := .int) (C := RX5) (T := TX5) (N := 18) hx hb hts wi_X5 tyX5 tyX5_ok nmX5 hown X.1 X.2.1 X.2.2.1 X.2.2.2.1 0 rfl rfl 9 (by decide) (hts _ q3_60) (fun _ h9 => h9) rfl (by decide +kernel) rfl rfl (by rw [List.length_map, List.length_range]; decide) dX5_closeParts_169 (fun H locs hP hD hS => ?_)
  have X : Hx D (tX5 yT ++ (tX0 yT_15)) A s H locs (wX5 hT aT yT (sI gT 9 (s1 - s0)) ++ (wX0 hT_15 aT_15 yT_15 gT_15)) := Hx_set X (set_l (by rw [wG_len (m := 5) rfl]; decide) (wG_sI (k := 9) rfl)) hP hD hS
  refine lv_aload_n hx hb dX5_closeParts_172 rfl (lv_at hl 0 rfl) ?_
  refine lv_dup hx hb dX5_closeParts_173 rfl ?_
  refine va_get (D := D.1) (ci := 5) (v := .int (gI gT 8)) (C := RX5) (T := TX5) (N := 18) hx hb hts wi_X5 hown X.1 X.2.1 0 rfl rfl 8 (by decide) (hts _ q3_59) (fun _ h9 => h9) (fl_get (by decide)) dX5_closeParts_174 ?_
  refine lv_iconst (v := (1 : Int32)) hx hb dX5_closeParts_177 (by decide) ?_
  refine lv_isub hx hb dX5_closeParts_178 ?_
  refine va_put (D := D.1) (ci := 5) (v := .int ((gI gT 8) - (1 : Int32))) (ty := .int) (C := RX5) (T := TX5) (N := 18) hx hb hts wi_X5 tyX5 tyX5_ok nmX5 hown X.1 X.2.1 X.2.2.1 X.2.2.2.1 0 rfl rfl 8 (by decide) (hts _ q3_59) (fun _ h9 => h9) rfl (by decide +kernel) rfl rfl (by rw [List.length_map, List.length_range]; decide) dX5_closeParts_179 (fun H locs hP hD hS => ?_)
  have X : Hx D (tX5 yT ++ (tX0 yT_15)) A s H locs (wX5 hT aT yT (sI (sI gT 9 (s1 - s0)) 8 ((gI gT 8) - (1 : Int32))) ++ (wX0 hT_15 aT_15 yT_15 gT_15)) := Hx_set X (set_l (by rw [wG_len (m := 5) rfl]; decide) (wG_sI (k := 8) rfl)) hP hD hS
  refine lv_aload_n hx hb dX5_closeParts_182 rfl (lv_at hl 0 rfl) ?_
  refine lv_iload hx hb dX5_closeParts_183 (lv_at hl 5 rfl) ?_
  obtain ⟨q_4, hc_5, hF⟩ := bnd_some hF
  refine cV_v (As := [.int v5]) (rest := []) C X (c_X5_writeTop l D hT aT yT hT_15 aT_15 yT_15 (sI (sI gT 9 (s1 - s0)) 8 ((gI gT 8) - (1 : Int32))) gT_15 v5 q_4 hc_5 _) (cwV 1 hts (good_V q4_97 q4_99 q0_18 q1_10 q4_100) rfl rfl rfl (by decide +kernel) ⟨Nat.le_of_ble_eq_true rfl, Nat.le_of_ble_eq_true rfl⟩) (va_recv X.1 X.2.1 (ci := 5) (q0 := 0) rfl rfl) X.1 X.2.1 X.2.2.1 (free_all X) hl.1 rfl rfl (Nat.le_of_ble_eq_true rfl) dX5_closeParts_185 ⟨Nat.le_of_ble_eq_true rfl, Nat.le_of_ble_eq_true rfl⟩ (fun t H1 locs1 ht hB hk hS => ?_)
  have X : Hx D (tX5 yT ++ (tX0 yT_15)) A s H1 locs1 (wX5 hT aT yT (sI (sI gT 9 (s1 - s0)) 8 ((gI gT 8) - (1 : Int32))) ++ (wX0 hT_15 aT_15 yT_15 q_4)) := Hx_after_all X ht hB hS
  clear hk hS ht hB
  generalize H1 = H at X ⊢
  generalize locs1 = locs at X ⊢
  exact (k_X5_closeParts_188 l D hT aT yT hT_15 aT_15 yT_15 n rec IH) C X (lv_sub hl [0, 1, 2, 3, 4] rfl) hF
set_option maxHeartbeats 4000000 in
set_option maxRecDepth 100000 in
theorem k_X5_closeParts_163 (l : Launch) (D : Dx) (hT : Nat) (aT : Nat → Nat) (yT : Nat → ClassId) (hT_15 : Nat) (aT_15 : Nat → Nat) (yT_15 : Nat → ClassId) (n : Nat) (rec : (Gs → Gs → Int32 → Int32 → Int32 → Int32 → Option (Gs × Gs))) (IH : SH_X5_closeParts l D hT aT yT hT_15 aT_15 yT_15 rec) : S_X5_closeParts_163 l D hT aT yT hT_15 aT_15 yT_15 (b_X5_closeParts_163 n hT_15 rec) := by
  intro p e s m args below meth c H locs A ls gT gT_15 v1 v2 v3 v4 v5 s0 q C X hl hF
  obtain ⟨hx, hb, hr, hml, hown, hts, hlk⟩ := id C
  unfold b_X5_closeParts_163 at hF
  refine lv_iconst (v := (1 : Int32)) hx hb dX5_closeParts_163 (by decide) ?_
  refine lv_goto (tgt := 168) hx hb dX5_closeParts_164 (by decide) ?_
  exact (k_X5_closeParts_168 l D hT aT yT hT_15 aT_15 yT_15 n rec IH) C X (lv_sub hl [0, 1, 2, 3, 4, 5] rfl) hF
set_option maxHeartbeats 4000000 in
set_option maxRecDepth 100000 in
theorem k_X5_closeParts_143 (l : Launch) (D : Dx) (hT : Nat) (aT : Nat → Nat) (yT : Nat → ClassId) (hT_15 : Nat) (aT_15 : Nat → Nat) (yT_15 : Nat → ClassId) (n : Nat) (rec : (Gs → Gs → Int32 → Int32 → Int32 → Int32 → Option (Gs × Gs))) (IH : SH_X5_closeParts l D hT aT yT hT_15 aT_15 yT_15 rec) : S_X5_closeParts_143 l D hT aT yT hT_15 aT_15 yT_15 (b_X5_closeParts_143 n hT_15 rec) := by
  intro p e s m args below meth c H locs A ls gT gT_15 v1 v2 v4 v5 v7 v8 s0 q C X hl hF
  obtain ⟨hx, hb, hr, hml, hown, hts, hlk⟩ := id C
  unfold b_X5_closeParts_143 at hF
  refine lv_istore_n (lv' := [(3, .int s0), (0, .ref hT), (1, .int v1), (2, .int v2), (4, .int v4), (5, .int v5), (7, .int v7), (8, .int v8)]) hx hb dX5_closeParts_143 rfl hl (by decide) rfl (fun ls hl => ?_)
  refine lv_iload_n hx hb dX5_closeParts_144 rfl (lv_at hl 0 rfl) ?_
  refine lv_if_eq (tgt := 188) hx hb dX5_closeParts_145 (by decide) (fun c => ?_) (fun c => ?_)
  · replace hF := iT c hF
    exact (k_X5_closeParts_188 l D hT aT yT hT_15 aT_15 yT_15 n rec IH) C X (lv_sub hl [1, 2, 3, 0, 4] rfl) hF
  · replace hF := iF c hF
    refine lv_aload_n hx hb dX5_closeParts_148 rfl (lv_at hl 1 rfl) ?_
    refine lv_dup hx hb dX5_closeParts_149 rfl ?_
    refine va_get (D := D.1) (ci := 5) (v := .int (gI gT 9)) (C := RX5) (T := TX5) (N := 18) hx hb hts wi_X5 hown X.1 X.2.1 0 rfl rfl 9 (by decide) (hts _ q3_60) (fun _ h9 => h9) (fl_get (by decide)) dX5_closeParts_150 ?_
    refine lv_iload hx hb dX5_closeParts_153 (lv_at hl 6 rfl) ?_
    refine lv_if_ne (tgt := 163) hx hb dX5_closeParts_155 (by decide) (fun c => ?_) (fun c => ?_)
    · replace hF := iF c hF
      exact (k_X5_closeParts_163 l D hT aT yT hT_15 aT_15 yT_15 n rec IH) C X (lv_sub hl [1, 2, 3, 0, 4, 5] rfl) hF
    · replace hF := iT c hF
      refine lv_iload hx hb dX5_closeParts_158 (lv_at hl 7 rfl) ?_
      refine lv_if_eq (tgt := 167) hx hb dX5_closeParts_160 (by decide) (fun c => ?_) (fun c => ?_)
      · replace hF := iT c hF
        refine lv_iconst (v := (0 : Int32)) hx hb dX5_closeParts_167 (by decide) ?_
        exact (k_X5_closeParts_168 l D hT aT yT hT_15 aT_15 yT_15 n rec IH) C X (lv_sub hl [1, 2, 3, 0, 4, 5] rfl) hF
      · replace hF := iF c hF
        exact (k_X5_closeParts_163 l D hT aT yT hT_15 aT_15 yT_15 n rec IH) C X (lv_sub hl [1, 2, 3, 0, 4, 5] rfl) hF
set_option maxHeartbeats 4000000 in
set_option maxRecDepth 100000 in
theorem k_X5_closeParts_138 (l : Launch) (D : Dx) (hT : Nat) (aT : Nat → Nat) (yT : Nat → ClassId) (hT_15 : Nat) (aT_15 : Nat → Nat) (yT_15 : Nat → ClassId) (n : Nat) (rec : (Gs → Gs → Int32 → Int32 → Int32 → Int32 → Option (Gs × Gs))) (IH : SH_X5_closeParts l D hT aT yT hT_15 aT_15 yT_15 rec) : S_X5_closeParts_138 l D hT aT yT hT_15 aT_15 yT_15 (b_X5_closeParts_138 n hT_15 rec) := by
  intro p e s m args below meth c H locs A ls gT gT_15 v1 v2 v4 v5 v7 v8 q C X hl hF
  obtain ⟨hx, hb, hr, hml, hown, hts, hlk⟩ := id C
  unfold b_X5_closeParts_138 at hF
  refine lv_iconst (v := (1 : Int32)) hx hb dX5_closeParts_138 (by decide) ?_
  refine lv_goto (tgt := 143) hx hb dX5_closeParts_139 (by decide) ?_
  exact (k_X5_closeParts_143 l D hT aT yT hT_15 aT_15 yT_15 n rec IH) C X (lv_sub hl [0, 1, 2, 3, 4, 5, 6] rfl) hF
set_option maxHeartbeats 4000000 in
set_option maxRecDepth 100000 in
theorem k_X5_closeParts_142 (l : Launch) (D : Dx) (hT : Nat) (aT : Nat → Nat) (yT : Nat → ClassId) (hT_15 : Nat) (aT_15 : Nat → Nat) (yT_15 : Nat → ClassId) (n : Nat) (rec : (Gs → Gs → Int32 → Int32 → Int32 → Int32 → Option (Gs × Gs))) (IH : SH_X5_closeParts l D hT aT yT hT_15 aT_15 yT_15 rec) : S_X5_closeParts_142 l D hT aT yT hT_15 aT_15 yT_15 (b_X5_closeParts_142 n hT_15 rec) := by
  intro p e s m args below meth c H locs A ls gT gT_15 v1 v2 v4 v5 v7 v8 q C X hl hF
  obtain ⟨hx, hb, hr, hml, hown, hts, hlk⟩ := id C
  unfold b_X5_closeParts_142 at hF
  refine lv_iconst (v := (0 : Int32)) hx hb dX5_closeParts_142 (by decide) ?_
  exact (k_X5_closeParts_143 l D hT aT yT hT_15 aT_15 yT_15 n rec IH) C X (lv_sub hl [0, 1, 2, 3, 4, 5, 6] rfl) hF
set_option maxHeartbeats 4000000 in
set_option maxRecDepth 100000 in
theorem k_X5_closeParts_123 (l : Launch) (D : Dx) (hT : Nat) (aT : Nat → Nat) (yT : Nat → ClassId) (hT_15 : Nat) (aT_15 : Nat → Nat) (yT_15 : Nat → ClassId) (n : Nat) (rec : (Gs → Gs → Int32 → Int32 → Int32 → Int32 → Option (Gs × Gs))) (IH : SH_X5_closeParts l D hT aT yT hT_15 aT_15 yT_15 rec) : S_X5_closeParts_123 l D hT aT yT hT_15 aT_15 yT_15 (b_X5_closeParts_123 n hT_15 rec) := by
  intro p e s m args below meth c H locs A ls gT gT_15 v1 v2 v4 v5 v6 v7 v8 v9 q C X hl hF
  obtain ⟨hx, hb, hr, hml, hown, hts, hlk⟩ := id C
  unfold b_X5_closeParts_123 at hF
  refine lv_iload hx hb dX5_closeParts_123 (lv_at hl 5 rfl) ?_
  refine lv_iload_n hx hb dX5_closeParts_125 rfl (lv_at hl 1 rfl) ?_
  refine lv_icmp_gt (tgt := 138) hx hb dX5_closeParts_126 (by decide) (fun c => ?_) (fun c => ?_)
  · replace hF := iT c hF
    exact (k_X5_closeParts_138 l D hT aT yT hT_15 aT_15 yT_15 n rec IH) C X (lv_sub hl [0, 1, 2, 3, 4, 6, 7] rfl) hF
  · replace hF := iF c hF
    refine lv_iload hx hb dX5_closeParts_129 (lv_at hl 8 rfl) ?_
    refine lv_if_eq (tgt := 142) hx hb dX5_closeParts_131 (by decide) (fun c => ?_) (fun c => ?_)
    · replace hF := iT c hF
      exact (k_X5_closeParts_142 l D hT aT yT hT_15 aT_15 yT_15 n rec IH) C X (lv_sub hl [0, 1, 2, 3, 4, 6, 7] rfl) hF
    · replace hF := iF c hF
      refine lv_iload_n hx hb dX5_closeParts_134 rfl (lv_at hl 1 rfl) ?_
      refine lv_if_le (tgt := 142) hx hb dX5_closeParts_135 (by decide) (fun c => ?_) (fun c => ?_)
      · replace hF := iT c hF
        exact (k_X5_closeParts_142 l D hT aT yT hT_15 aT_15 yT_15 n rec IH) C X (lv_sub hl [0, 1, 2, 3, 4, 6, 7] rfl) hF
      · replace hF := iF c hF
        exact (k_X5_closeParts_138 l D hT aT yT hT_15 aT_15 yT_15 n rec IH) C X (lv_sub hl [0, 1, 2, 3, 4, 6, 7] rfl) hF
set_option maxHeartbeats 4000000 in
set_option maxRecDepth 100000 in
theorem k_X5_closeParts_107 (l : Launch) (D : Dx) (hT : Nat) (aT : Nat → Nat) (yT : Nat → ClassId) (hT_15 : Nat) (aT_15 : Nat → Nat) (yT_15 : Nat → ClassId) (n : Nat) (rec : (Gs → Gs → Int32 → Int32 → Int32 → Int32 → Option (Gs × Gs))) (IH : SH_X5_closeParts l D hT aT yT hT_15 aT_15 yT_15 rec) : S_X5_closeParts_107 l D hT aT yT hT_15 aT_15 yT_15 (b_X5_closeParts_107 n hT_15 rec) := by
  intro p e s m args below meth c H locs A ls gT gT_15 v1 v2 v4 v5 v6 v7 v8 s0 q C X hl hF
  obtain ⟨hx, hb, hr, hml, hown, hts, hlk⟩ := id C
  unfold b_X5_closeParts_107 at hF
  refine lv_istore (lv' := [(9, .int s0), (0, .ref hT), (1, .int v1), (2, .int v2), (4, .int v4), (5, .int v5), (6, .int v6), (7, .int v7), (8, .int v8)]) hx hb dX5_closeParts_107 hl (by decide) rfl (fun ls hl => ?_)
  refine lv_iload hx hb dX5_closeParts_109 (lv_at hl 7 rfl) ?_
  refine lv_if_ne (tgt := 138) hx hb dX5_closeParts_111 (by decide) (fun c => ?_) (fun c => ?_)
  · replace hF := iF c hF
    exact (k_X5_closeParts_138 l D hT aT yT hT_15 aT_15 yT_15 n rec IH) C X (lv_sub hl [1, 2, 3, 4, 5, 7, 8] rfl) hF
  · replace hF := iT c hF
    refine lv_iload hx hb dX5_closeParts_114 (lv_at hl 8 rfl) ?_
    refine lv_if_eq (tgt := 123) hx hb dX5_closeParts_116 (by decide) (fun c => ?_) (fun c => ?_)
    · replace hF := iT c hF
      exact (k_X5_closeParts_123 l D hT aT yT hT_15 aT_15 yT_15 n rec IH) C X (lv_sub hl [1, 2, 3, 4, 5, 6, 7, 8, 0] rfl) hF
    · replace hF := iF c hF
      refine lv_iload_n hx hb dX5_closeParts_119 rfl (lv_at hl 3 rfl) ?_
      refine lv_if_ne (tgt := 138) hx hb dX5_closeParts_120 (by decide) (fun c => ?_) (fun c => ?_)
      · replace hF := iF c hF
        exact (k_X5_closeParts_138 l D hT aT yT hT_15 aT_15 yT_15 n rec IH) C X (lv_sub hl [1, 2, 3, 4, 5, 7, 8] rfl) hF
      · replace hF := iT c hF
        exact (k_X5_closeParts_123 l D hT aT yT hT_15 aT_15 yT_15 n rec IH) C X (lv_sub hl [1, 2, 3, 4, 5, 6, 7, 8, 0] rfl) hF
set_option maxHeartbeats 4000000 in
set_option maxRecDepth 100000 in
theorem k_X5_closeParts_106 (l : Launch) (D : Dx) (hT : Nat) (aT : Nat → Nat) (yT : Nat → ClassId) (hT_15 : Nat) (aT_15 : Nat → Nat) (yT_15 : Nat → ClassId) (n : Nat) (rec : (Gs → Gs → Int32 → Int32 → Int32 → Int32 → Option (Gs × Gs))) (IH : SH_X5_closeParts l D hT aT yT hT_15 aT_15 yT_15 rec) : S_X5_closeParts_106 l D hT aT yT hT_15 aT_15 yT_15 (b_X5_closeParts_106 n hT_15 rec) := by
  intro p e s m args below meth c H locs A ls gT gT_15 v1 v2 v4 v5 v6 v7 v8 q C X hl hF
  obtain ⟨hx, hb, hr, hml, hown, hts, hlk⟩ := id C
  unfold b_X5_closeParts_106 at hF
  refine lv_iconst (v := (0 : Int32)) hx hb dX5_closeParts_106 (by decide) ?_
  exact (k_X5_closeParts_107 l D hT aT yT hT_15 aT_15 yT_15 n rec IH) C X (lv_sub hl [0, 1, 2, 3, 4, 5, 6, 7] rfl) hF
set_option maxHeartbeats 4000000 in
set_option maxRecDepth 100000 in
theorem k_X5_closeParts_84 (l : Launch) (D : Dx) (hT : Nat) (aT : Nat → Nat) (yT : Nat → ClassId) (hT_15 : Nat) (aT_15 : Nat → Nat) (yT_15 : Nat → ClassId) (n : Nat) (rec : (Gs → Gs → Int32 → Int32 → Int32 → Int32 → Option (Gs × Gs))) (IH : SH_X5_closeParts l D hT aT yT hT_15 aT_15 yT_15 rec) : S_X5_closeParts_84 l D hT aT yT hT_15 aT_15 yT_15 (b_X5_closeParts_84 n hT_15 rec) := by
  intro p e s m args below meth c H locs A ls gT gT_15 v1 v2 v4 v5 v6 v7 s0 q C X hl hF
  obtain ⟨hx, hb, hr, hml, hown, hts, hlk⟩ := id C
  unfold b_X5_closeParts_84 at hF
  refine lv_istore (lv' := [(8, .int s0), (0, .ref hT), (1, .int v1), (2, .int v2), (4, .int v4), (5, .int v5), (6, .int v6), (7, .int v7)]) hx hb dX5_closeParts_84 hl (by decide) rfl (fun ls hl => ?_)
  refine lv_iload hx hb dX5_closeParts_86 (lv_at hl 6 rfl) ?_
  refine lv_iload_n hx hb dX5_closeParts_88 rfl (lv_at hl 2 rfl) ?_
  refine lv_icmp_ne (tgt := 106) hx hb dX5_closeParts_89 (by decide) (fun c => ?_) (fun c => ?_)
  · replace hF := iF c hF
    exact (k_X5_closeParts_106 l D hT aT yT hT_15 aT_15 yT_15 n rec IH) C X (lv_sub hl [1, 2, 3, 4, 5, 6, 7, 0] rfl) hF
  · replace hF := iT c hF
    refine lv_iload_n hx hb dX5_closeParts_92 rfl (lv_at hl 2 rfl) ?_
    refine lv_iconst (v := (3 : Int32)) hx hb dX5_closeParts_93 (by decide) ?_
    refine lv_icmp_eq (tgt := 106) hx hb dX5_closeParts_94 (by decide) (fun c => ?_) (fun c => ?_)
    · replace hF := iT c hF
      exact (k_X5_closeParts_106 l D hT aT yT hT_15 aT_15 yT_15 n rec IH) C X (lv_sub hl [1, 2, 3, 4, 5, 6, 7, 0] rfl) hF
    · replace hF := iF c hF
      refine lv_iload_n hx hb dX5_closeParts_97 rfl (lv_at hl 2 rfl) ?_
      refine lv_iconst (v := (4 : Int32)) hx hb dX5_closeParts_98 (by decide) ?_
      refine lv_icmp_eq (tgt := 106) hx hb dX5_closeParts_99 (by decide) (fun c => ?_) (fun c => ?_)
      · replace hF := iT c hF
        exact (k_X5_closeParts_106 l D hT aT yT hT_15 aT_15 yT_15 n rec IH) C X (lv_sub hl [1, 2, 3, 4, 5, 6, 7, 0] rfl) hF
      · replace hF := iF c hF
        refine lv_iconst (v := (1 : Int32)) hx hb dX5_closeParts_102 (by decide) ?_
        refine lv_goto (tgt := 107) hx hb dX5_closeParts_103 (by decide) ?_
        exact (k_X5_closeParts_107 l D hT aT yT hT_15 aT_15 yT_15 n rec IH) C X (lv_sub hl [1, 2, 3, 4, 5, 6, 7, 0] rfl) hF
set_option maxHeartbeats 4000000 in
set_option maxRecDepth 100000 in
theorem k_X5_closeParts_70 (l : Launch) (D : Dx) (hT : Nat) (aT : Nat → Nat) (yT : Nat → ClassId) (hT_15 : Nat) (aT_15 : Nat → Nat) (yT_15 : Nat → ClassId) (n : Nat) (rec : (Gs → Gs → Int32 → Int32 → Int32 → Int32 → Option (Gs × Gs))) (IH : SH_X5_closeParts l D hT aT yT hT_15 aT_15 yT_15 rec) : S_X5_closeParts_70 l D hT aT yT hT_15 aT_15 yT_15 (b_X5_closeParts_70 n hT_15 rec) := by
  intro p e s m args below meth c H locs A ls gT gT_15 v1 v2 v4 v5 v6 s0 q C X hl hF
  obtain ⟨hx, hb, hr, hml, hown, hts, hlk⟩ := id C
  unfold b_X5_closeParts_70 at hF
  refine lv_istore (lv' := [(7, .int s0), (0, .ref hT), (1, .int v1), (2, .int v2), (4, .int v4), (5, .int v5), (6, .int v6)]) hx hb dX5_closeParts_70 hl (by decide) rfl (fun ls hl => ?_)
  refine lv_iload hx hb dX5_closeParts_72 (lv_at hl 5 rfl) ?_
  refine lv_bipush (v := (70 : Int32)) hx hb dX5_closeParts_74 (by decide) ?_
  refine lv_icmp_ne (tgt := 83) hx hb dX5_closeParts_76 (by decide) (fun c => ?_) (fun c => ?_)
  · replace hF := iF c hF
    refine lv_iconst (v := (0 : Int32)) hx hb dX5_closeParts_83 (by decide) ?_
    exact (k_X5_closeParts_84 l D hT aT yT hT_15 aT_15 yT_15 n rec IH) C X (lv_sub hl [1, 2, 3, 4, 5, 6, 0] rfl) hF
  · replace hF := iT c hF
    refine lv_iconst (v := (1 : Int32)) hx hb dX5_closeParts_79 (by decide) ?_
    refine lv_goto (tgt := 84) hx hb dX5_closeParts_80 (by decide) ?_
    exact (k_X5_closeParts_84 l D hT aT yT hT_15 aT_15 yT_15 n rec IH) C X (lv_sub hl [1, 2, 3, 4, 5, 6, 0] rfl) hF
set_option maxHeartbeats 4000000 in
set_option maxRecDepth 100000 in
theorem k_X5_closeParts_65 (l : Launch) (D : Dx) (hT : Nat) (aT : Nat → Nat) (yT : Nat → ClassId) (hT_15 : Nat) (aT_15 : Nat → Nat) (yT_15 : Nat → ClassId) (n : Nat) (rec : (Gs → Gs → Int32 → Int32 → Int32 → Int32 → Option (Gs × Gs))) (IH : SH_X5_closeParts l D hT aT yT hT_15 aT_15 yT_15 rec) : S_X5_closeParts_65 l D hT aT yT hT_15 aT_15 yT_15 (b_X5_closeParts_65 n hT_15 rec) := by
  intro p e s m args below meth c H locs A ls gT gT_15 v1 v2 v4 v5 v6 q C X hl hF
  obtain ⟨hx, hb, hr, hml, hown, hts, hlk⟩ := id C
  unfold b_X5_closeParts_65 at hF
  refine lv_iconst (v := (1 : Int32)) hx hb dX5_closeParts_65 (by decide) ?_
  refine lv_goto (tgt := 70) hx hb dX5_closeParts_66 (by decide) ?_
  exact (k_X5_closeParts_70 l D hT aT yT hT_15 aT_15 yT_15 n rec IH) C X (lv_sub hl [0, 1, 2, 3, 4, 5] rfl) hF
set_option maxHeartbeats 4000000 in
set_option maxRecDepth 100000 in
theorem k_X5_closeParts_5 (l : Launch) (D : Dx) (hT : Nat) (aT : Nat → Nat) (yT : Nat → ClassId) (hT_15 : Nat) (aT_15 : Nat → Nat) (yT_15 : Nat → ClassId) (n : Nat) (rec : (Gs → Gs → Int32 → Int32 → Int32 → Int32 → Option (Gs × Gs))) (IH : SH_X5_closeParts l D hT aT yT hT_15 aT_15 yT_15 rec) : S_X5_closeParts_5 l D hT aT yT hT_15 aT_15 yT_15 (h_X5_closeParts_5 n hT_15 rec) := by
  intro p e s m args below meth c H locs A ls gT gT_15 v1 v2 v3 v4 q C X hl hF
  obtain ⟨hx, hb, hr, hml, hown, hts, hlk⟩ := id C
  unfold h_X5_closeParts_5 at hF
  refine lv_iload hx hb dX5_closeParts_5 (lv_at hl 4 rfl) ?_
  refine lv_sipush (v := (320 : Int32)) hx hb dX5_closeParts_7 (by decide) ?_
  refine lv_icmp_ge (tgt := 194) hx hb dX5_closeParts_10 (by decide) (fun c => ?_) (fun c => ?_)
  · replace hF := iT c hF
    have hq := Option.some.inj hF
    subst hq
    exact rt_v C X dX5_closeParts_194
  · replace hF := iF c hF
    refine lv_iload_n hx hb dX5_closeParts_13 rfl (lv_at hl 3 rfl) ?_
    refine lv_if_eq (tgt := 194) hx hb dX5_closeParts_14 (by decide) (fun c => ?_) (fun c => ?_)
    · replace hF := iT c hF
      have hq := Option.some.inj hF
      subst hq
      exact rt_v C X dX5_closeParts_194
    · replace hF := iF c hF
      refine lv_aload_n hx hb dX5_closeParts_17 rfl (lv_at hl 0 rfl) ?_
      refine va_get (D := D.1) (ci := 5) (v := .int (gI gT 8)) (C := RX5) (T := TX5) (N := 18) hx hb hts wi_X5 hown X.1 X.2.1 0 rfl rfl 8 (by decide) (hts _ q3_59) (fun _ h9 => h9) (fl_get (by decide)) dX5_closeParts_18 ?_
      refine lv_if_le (tgt := 194) hx hb dX5_closeParts_21 (by decide) (fun c => ?_) (fun c => ?_)
      · replace hF := iT c hF
        have hq := Option.some.inj hF
        subst hq
        exact rt_v C X dX5_closeParts_194
      · replace hF := iF c hF
        refine lv_aload_n hx hb dX5_closeParts_24 rfl (lv_at hl 0 rfl) ?_
        refine va_get (D := D.1) (ci := 5) (v := .ref (aT 4)) (C := RX5) (T := TX5) (N := 18) hx hb hts wi_X5 hown X.1 X.2.1 0 rfl rfl 4 (by decide) (hts _ q3_55) (fun _ h9 => h9) (fl_get (by decide)) dX5_closeParts_25 ?_
        refine lv_aload_n hx hb dX5_closeParts_28 rfl (lv_at hl 0 rfl) ?_
        refine va_get (D := D.1) (ci := 5) (v := .int (gI gT 8)) (C := RX5) (T := TX5) (N := 18) hx hb hts wi_X5 hown X.1 X.2.1 0 rfl rfl 8 (by decide) (hts _ q3_59) (fun _ h9 => h9) (fl_get (by decide)) dX5_closeParts_29 ?_
        refine lv_iconst (v := (1 : Int32)) hx hb dX5_closeParts_32 (by decide) ?_
        refine lv_isub hx hb dX5_closeParts_33 ?_
        obtain ⟨h_1, hF⟩ := grd_some hF
        refine va_iald (D := D.1) (f := gIA gT 4) hx hb X.1 X.2.1 1 0 rfl rfl (inB_ok h_1) dX5_closeParts_34 ?_
        refine lv_istore (lv' := [(5, .int (gIA gT 4 ((gI gT 8) - (1 : Int32)).toNatClampNeg)), (0, .ref hT), (1, .int v1), (2, .int v2), (3, .int v3), (4, .int v4)]) hx hb dX5_closeParts_35 hl (by decide) rfl (fun ls hl => ?_)
        refine lv_iload hx hb dX5_closeParts_37 (lv_at hl 0 rfl) ?_
        obtain ⟨q_2, hc_3, hF⟩ := bnd_some hF
        refine cS_i (As := [.int (gIA gT 4 ((gI gT 8) - (1 : Int32)).toNatClampNeg)]) (rest := []) C X (c_X5_rankOf l D  (gIA gT 4 ((gI gT 8) - (1 : Int32)).toNatClampNeg) q_2 hc_3 _) (va_cwS 1 hts (good_S q4_90 q4_91 q1_10 q4_92) rfl rfl rfl (by decide +kernel) ⟨Nat.le_of_ble_eq_true rfl, Nat.le_of_ble_eq_true rfl⟩) (eK X) eP (eD (A := A)) (eF X) hl.1 rfl rfl (Nat.le_of_ble_eq_true rfl) dX5_closeParts_39 ⟨Nat.le_of_ble_eq_true rfl, Nat.le_of_ble_eq_true rfl⟩ (fun t H1 locs1 ht hB hk hS => ?_)
        have X := Hx_after_none X hk hS
        clear hk hS ht hB
        generalize H1 = H at X ⊢
        generalize locs1 = locs at X ⊢
        refine lv_istore (lv' := [(6, .int q_2), (5, .int (gIA gT 4 ((gI gT 8) - (1 : Int32)).toNatClampNeg)), (0, .ref hT), (1, .int v1), (2, .int v2), (3, .int v3), (4, .int v4)]) hx hb dX5_closeParts_42 hl (by decide) rfl (fun ls hl => ?_)
        refine lv_iload hx hb dX5_closeParts_44 (lv_at hl 1 rfl) ?_
        refine lv_bipush (v := (65 : Int32)) hx hb dX5_closeParts_46 (by decide) ?_
        refine lv_icmp_eq (tgt := 65) hx hb dX5_closeParts_48 (by decide) (fun c => ?_) (fun c => ?_)
        · replace hF := iT c hF
          exact (k_X5_closeParts_65 l D hT aT yT hT_15 aT_15 yT_15 n rec IH) C X (lv_sub hl [2, 3, 4, 6, 1, 0] rfl) hF
        · replace hF := iF c hF
          refine lv_iload hx hb dX5_closeParts_51 (lv_at hl 1 rfl) ?_
          refine lv_bipush (v := (54 : Int32)) hx hb dX5_closeParts_53 (by decide) ?_
          refine lv_icmp_eq (tgt := 65) hx hb dX5_closeParts_55 (by decide) (fun c => ?_) (fun c => ?_)
          · replace hF := iT c hF
            exact (k_X5_closeParts_65 l D hT aT yT hT_15 aT_15 yT_15 n rec IH) C X (lv_sub hl [2, 3, 4, 6, 1, 0] rfl) hF
          · replace hF := iF c hF
            refine lv_iload hx hb dX5_closeParts_58 (lv_at hl 1 rfl) ?_
            refine lv_bipush (v := (66 : Int32)) hx hb dX5_closeParts_60 (by decide) ?_
            refine lv_icmp_ne (tgt := 69) hx hb dX5_closeParts_62 (by decide) (fun c => ?_) (fun c => ?_)
            · replace hF := iF c hF
              refine lv_iconst (v := (0 : Int32)) hx hb dX5_closeParts_69 (by decide) ?_
              exact (k_X5_closeParts_70 l D hT aT yT hT_15 aT_15 yT_15 n rec IH) C X (lv_sub hl [2, 3, 4, 6, 1, 0] rfl) hF
            · replace hF := iT c hF
              exact (k_X5_closeParts_65 l D hT aT yT hT_15 aT_15 yT_15 n rec IH) C X (lv_sub hl [2, 3, 4, 6, 1, 0] rfl) hF
theorem kL_X5_closeParts (l : Launch) (D : Dx) (hT : Nat) (aT : Nat → Nat) (yT : Nat → ClassId) (hT_15 : Nat) (aT_15 : Nat → Nat) (yT_15 : Nat → ClassId) (n : Nat) : ∀ k, SH_X5_closeParts l D hT aT yT hT_15 aT_15 yT_15 (L_X5_closeParts n hT_15 k)
  | 0 => fun _ _ _ h => by cases h
  | k + 1 => k_X5_closeParts_5 l D hT aT yT hT_15 aT_15 yT_15 n _ (kL_X5_closeParts l D hT aT yT hT_15 aT_15 yT_15 n k)
set_option maxHeartbeats 4000000 in
set_option maxRecDepth 100000 in
theorem c_X5_closeParts (l : Launch) (D : Dx) (hT : Nat) (aT : Nat → Nat) (yT : Nat → ClassId) (hT_15 : Nat) (aT_15 : Nat → Nat) (yT_15 : Nat → ClassId) (n : Nat) (gT : Gs) (gT_15 : Gs) (x0 : Int32) (x1 : Int32) (q : Gs × Gs) (hF : f_X5_closeParts n hT_15 gT gT_15 x0 x1 = some q) (sz : Nat) : Met l yX5_closeParts (ws_ yX5_closeParts cX5_closeParts 10 none) R_X5_closeParts (PC D (tX5 yT ++ (tX0 yT_15)) [.ref hT, .int x0, .int x1] (wX5 hT aT yT gT ++ (wX0 hT_15 aT_15 yT_15 gT_15)) sz) (QV D (va_A (wX5 hT aT yT gT ++ (wX0 hT_15 aT_15 yT_15 gT_15)) sz) (wX5 hT aT yT q.1 ++ (wX0 hT_15 aT_15 yT_15 q.2))) 0 0 (va_A (wX5 hT aT yT gT ++ (wX0 hT_15 aT_15 yT_15 gT_15)) sz) := by
  refine Met.ofW (cc := cX5_closeParts) (maxL := 10) (ret := none) (by decide) rfl ?_
  intro p e s m args below meth c s₁ B hml hv
  obtain ⟨rfl, hsz, hP, hK, hD, hN⟩ := hv
  subst hsz
  have C : Cx p s m _ meth c cX5_closeParts none 10 RX5 lw_all := Cx_of B hml
  have X := Hx_start hP hK hD hN
  obtain ⟨hx, hb, hr, -, hown, hts, hlk⟩ := id C
  generalize va_A (wX5 hT aT yT gT ++ (wX0 hT_15 aT_15 yT_15 gT_15)) s.heap.size = A at X ⊢
  have hl := lv_entry ([.ref hT, .int x0, .int x1]) (n := 10) (Nat.le_of_ble_eq_true rfl)
  rw [lg_entry_eq]
  generalize (lg_sl ([.ref hT, .int x0, .int x1]) ++ List.replicate (10 - (lg_sl ([.ref hT, .int x0, .int x1])).length) Slot.unset).toArray = ls at hl ⊢
  have hl : lv_has ls 10 [(0, .ref hT), (1, .int x0), (2, .int x1)] := hl
  unfold f_X5_closeParts at hF
  refine lv_iconst (v := (1 : Int32)) hx hb dX5_closeParts_0 (by decide) ?_
  refine lv_istore_n (lv' := [(3, .int (1 : Int32)), (0, .ref hT), (1, .int x0), (2, .int x1)]) hx hb dX5_closeParts_1 rfl hl (by decide) rfl (fun ls hl => ?_)
  refine lv_iconst (v := (0 : Int32)) hx hb dX5_closeParts_2 (by decide) ?_
  refine lv_istore (lv' := [(4, .int (0 : Int32)), (3, .int (1 : Int32)), (0, .ref hT), (1, .int x0), (2, .int x1)]) hx hb dX5_closeParts_3 hl (by decide) rfl (fun ls hl => ?_)
  exact (kL_X5_closeParts l D hT aT yT hT_15 aT_15 yT_15 n n) C X (lv_sub hl [2, 3, 4, 1, 0] rfl) hF

/-! ### X5_readJoining -/
theorem dX5_readJoining_0 : decode cX5_readJoining 0 = .ok (.aload_n 0, 1) := by decide +kernel
theorem dX5_readJoining_1 : decode cX5_readJoining 1 = .ok (.getfield 31, 3) := by decide +kernel
theorem dX5_readJoining_4 : decode cX5_readJoining 4 = .ok (.ifCond .le 23, 3) := by decide +kernel
theorem dX5_readJoining_7 : decode cX5_readJoining 7 = .ok (.aload_n 0, 1) := by decide +kernel
theorem dX5_readJoining_8 : decode cX5_readJoining 8 = .ok (.getfield 18, 3) := by decide +kernel
theorem dX5_readJoining_11 : decode cX5_readJoining 11 = .ok (.aload_n 0, 1) := by decide +kernel
theorem dX5_readJoining_12 : decode cX5_readJoining 12 = .ok (.getfield 31, 3) := by decide +kernel
theorem dX5_readJoining_15 : decode cX5_readJoining 15 = .ok (.iconst 1, 1) := by decide +kernel
theorem dX5_readJoining_16 : decode cX5_readJoining 16 = .ok (.isub, 1) := by decide +kernel
theorem dX5_readJoining_17 : decode cX5_readJoining 17 = .ok (.iaload, 1) := by decide +kernel
theorem dX5_readJoining_18 : decode cX5_readJoining 18 = .ok (.invokestatic 277, 3) := by decide +kernel
theorem dX5_readJoining_21 : decode cX5_readJoining 21 = .ok (.iload_n 2, 1) := by decide +kernel
theorem dX5_readJoining_22 : decode cX5_readJoining 22 = .ok (.if_icmp .ne 5, 3) := by decide +kernel
theorem dX5_readJoining_25 : decode cX5_readJoining 25 = .ok (.iconst 0, 1) := by decide +kernel
theorem dX5_readJoining_26 : decode cX5_readJoining 26 = .ok (.ireturn, 1) := by decide +kernel
theorem dX5_readJoining_27 : decode cX5_readJoining 27 = .ok (.aload_n 0, 1) := by decide +kernel
theorem dX5_readJoining_28 : decode cX5_readJoining 28 = .ok (.aload_n 0, 1) := by decide +kernel
theorem dX5_readJoining_29 : decode cX5_readJoining 29 = .ok (.getfield 77, 3) := by decide +kernel
theorem dX5_readJoining_32 : decode cX5_readJoining 32 = .ok (.getfield 114, 3) := by decide +kernel
theorem dX5_readJoining_35 : decode cX5_readJoining 35 = .ok (.invokevirtual 260, 3) := by decide +kernel
theorem dX5_readJoining_38 : decode cX5_readJoining 38 = .ok (.iconst (-1), 1) := by decide +kernel
theorem dX5_readJoining_39 : decode cX5_readJoining 39 = .ok (.istore_n 3, 1) := by decide +kernel
theorem dX5_readJoining_40 : decode cX5_readJoining 40 = .ok (.iload_n 1, 1) := by decide +kernel
theorem dX5_readJoining_41 : decode cX5_readJoining 41 = .ok (.bipush 61, 2) := by decide +kernel
theorem dX5_readJoining_43 : decode cX5_readJoining 43 = .ok (.if_icmp .eq 9, 3) := by decide +kernel
theorem dX5_readJoining_46 : decode cX5_readJoining 46 = .ok (.iload_n 1, 1) := by decide +kernel
theorem dX5_readJoining_47 : decode cX5_readJoining 47 = .ok (.bipush 62, 2) := by decide +kernel
theorem dX5_readJoining_49 : decode cX5_readJoining 49 = .ok (.if_icmp .ne 31, 3) := by decide +kernel
theorem dX5_readJoining_52 : decode cX5_readJoining 52 = .ok (.aload_n 0, 1) := by decide +kernel
theorem dX5_readJoining_53 : decode cX5_readJoining 53 = .ok (.getfield 71, 3) := by decide +kernel
theorem dX5_readJoining_56 : decode cX5_readJoining 56 = .ok (.iload_n 1, 1) := by decide +kernel
theorem dX5_readJoining_57 : decode cX5_readJoining 57 = .ok (.bipush 61, 2) := by decide +kernel
theorem dX5_readJoining_59 : decode cX5_readJoining 59 = .ok (.if_icmp .ne 8, 3) := by decide +kernel
theorem dX5_readJoining_62 : decode cX5_readJoining 62 = .ok (.bipush 67, 2) := by decide +kernel
theorem dX5_readJoining_64 : decode cX5_readJoining 64 = .ok (.goto 5, 3) := by decide +kernel
theorem dX5_readJoining_67 : decode cX5_readJoining 67 = .ok (.bipush 68, 2) := by decide +kernel
theorem dX5_readJoining_69 : decode cX5_readJoining 69 = .ok (.aload_n 0, 1) := by decide +kernel
theorem dX5_readJoining_70 : decode cX5_readJoining 70 = .ok (.getfield 77, 3) := by decide +kernel
theorem dX5_readJoining_73 : decode cX5_readJoining 73 = .ok (.getfield 114, 3) := by decide +kernel
theorem dX5_readJoining_76 : decode cX5_readJoining 76 = .ok (.invokevirtual 244, 3) := by decide +kernel
theorem dX5_readJoining_79 : decode cX5_readJoining 79 = .ok (.istore_n 3, 1) := by decide +kernel
theorem dX5_readJoining_80 : decode cX5_readJoining 80 = .ok (.aload_n 0, 1) := by decide +kernel
theorem dX5_readJoining_81 : decode cX5_readJoining 81 = .ok (.iload_n 1, 1) := by decide +kernel
theorem dX5_readJoining_82 : decode cX5_readJoining 82 = .ok (.aload_n 0, 1) := by decide +kernel
theorem dX5_readJoining_83 : decode cX5_readJoining 83 = .ok (.getfield 77, 3) := by decide +kernel
theorem dX5_readJoining_86 : decode cX5_readJoining 86 = .ok (.getfield 114, 3) := by decide +kernel
theorem dX5_readJoining_89 : decode cX5_readJoining 89 = .ok (.iload_n 3, 1) := by decide +kernel
theorem dX5_readJoining_90 : decode cX5_readJoining 90 = .ok (.iconst 0, 1) := by decide +kernel
theorem dX5_readJoining_91 : decode cX5_readJoining 91 = .ok (.invokevirtual 253, 3) := by decide +kernel
theorem dX5_readJoining_94 : decode cX5_readJoining 94 = .ok (.ireturn, 1) := by decide +kernel
abbrev R_X5_readJoining : Room := ({ frames := 2, cells := 0, slots := 0, locals := 42 } : Room)
def b_X5_readJoining_80 (hT_15 : Nat) (gT : Gs) (gT_1 : Gs) (gT_15 : Gs) (v1 : Int32) (v3 : Int32) : Option (Int32 × Gs × Gs) :=
  bnd (f_X5_push gT v1 (gI gT_1 5) v3 (0 : Int32)) (fun q_6 => some (q_6.1, q_6.2, gT_15))
def b_X5_readJoining_69 (hT_15 : Nat) (gT : Gs) (gT_1 : Gs) (gT_15 : Gs) (v1 : Int32) (s0 : Int32) : Option (Int32 × Gs × Gs) :=
  bnd (f_X0_add gT_15 s0 (gI gT_1 5)) (fun q_4 => b_X5_readJoining_80 hT_15 gT gT_1 q_4.2 v1 q_4.1)
def b_X5_readJoining_52 (hT_15 : Nat) (gT : Gs) (gT_1 : Gs) (gT_15 : Gs) (v1 : Int32) : Option (Int32 × Gs × Gs) :=
  grd (rEq (gR gT 15) hT_15) (if v1 = (61 : Int32) then (b_X5_readJoining_69 hT_15 gT gT_1 gT_15 v1 (67 : Int32)) else (b_X5_readJoining_69 hT_15 gT gT_1 gT_15 v1 (68 : Int32)))
def b_X5_readJoining_27 (hT_15 : Nat) (gT : Gs) (gT_1 : Gs) (gT_15 : Gs) (v1 : Int32) : Option (Int32 × Gs × Gs) :=
  bnd (f_X5_countNode hT_15 gT gT_15 (gI gT_1 5)) (fun q_1 => if v1 = (61 : Int32) then (b_X5_readJoining_52 hT_15 q_1.1 gT_1 q_1.2 v1) else (if v1 = (62 : Int32) then (b_X5_readJoining_52 hT_15 q_1.1 gT_1 q_1.2 v1) else (b_X5_readJoining_80 hT_15 q_1.1 gT_1 q_1.2 v1 (-1 : Int32))))
def f_X5_readJoining (hT_15 : Nat) (gT : Gs) (gT_1 : Gs) (gT_15 : Gs) (x0 : Int32) (x1 : Int32) : Option (Int32 × Gs × Gs) :=
  if (gI gT 8) ≤ 0 then (b_X5_readJoining_27 hT_15 gT gT_1 gT_15 x0) else (grd (inB ((gI gT 8) - (1 : Int32)) 320) (bnd (f_X5_rankOf (gIA gT 4 ((gI gT 8) - (1 : Int32)).toNatClampNeg)) (fun q_9 => if q_9 = x1 then (some ((0 : Int32), gT, gT_15)) else (b_X5_readJoining_27 hT_15 gT gT_1 gT_15 x0))))
def S_X5_readJoining_80 (l : Launch) (D : Dx) (hT : Nat) (aT : Nat → Nat) (yT : Nat → ClassId) (aT_1 : Nat → Nat) (yT_1 : Nat → ClassId) (hT_15 : Nat) (aT_15 : Nat → Nat) (yT_15 : Nat → ClassId) (fn : Gs → Gs → Gs → Int32 → Int32 → Option (Int32 × Gs × Gs)) : Prop :=
  ∀ {p : Program} {e : Env} {s : State} {m : MethodId} {args : Array Value} {below : List Frame} {meth : Method} {c : Code} {H : Heap} {locs : List Loc} {A : Nat → Prop} {ls : Array Slot} {gT : Gs} {gT_1 : Gs} {gT_15 : Gs} {v1 : Int32} {v3 : Int32} {q : Int32 × Gs × Gs}, Cx p s m args meth c cX5_readJoining (some .int) 4 RX5 lw_all → Hx D (tX5 yT ++ (tX7 yT_1 ++ (tX0 yT_15))) A s H locs (wX5 hT aT yT gT ++ (wX7 (aT 1) aT_1 yT_1 gT_1 ++ (wX0 hT_15 aT_15 yT_15 gT_15))) → lv_has ls 4 [(0, .ref hT), (1, .int v1), (3, .int v3)] → fn gT gT_1 gT_15 v1 v3 = some q → W p l e R_X5_readJoining s m args below meth c H locs 0 0 (MQ below (QI D A (wX5 hT aT yT q.2.1 ++ (wX7 (aT 1) aT_1 yT_1 gT_1 ++ (wX0 hT_15 aT_15 yT_15 q.2.2))) q.1) args s 0 0 A) (F0 m 80 ls [])
def S_X5_readJoining_69 (l : Launch) (D : Dx) (hT : Nat) (aT : Nat → Nat) (yT : Nat → ClassId) (aT_1 : Nat → Nat) (yT_1 : Nat → ClassId) (hT_15 : Nat) (aT_15 : Nat → Nat) (yT_15 : Nat → ClassId) (fn : Gs → Gs → Gs → Int32 → Int32 → Option (Int32 × Gs × Gs)) : Prop :=
  ∀ {p : Program} {e : Env} {s : State} {m : MethodId} {args : Array Value} {below : List Frame} {meth : Method} {c : Code} {H : Heap} {locs : List Loc} {A : Nat → Prop} {ls : Array Slot} {gT : Gs} {gT_1 : Gs} {gT_15 : Gs} {v1 : Int32} {s0 : Int32} {q : Int32 × Gs × Gs}, Cx p s m args meth c cX5_readJoining (some .int) 4 RX5 lw_all → Hx D (tX5 yT ++ (tX7 yT_1 ++ (tX0 yT_15))) A s H locs (wX5 hT aT yT gT ++ (wX7 (aT 1) aT_1 yT_1 gT_1 ++ (wX0 hT_15 aT_15 yT_15 gT_15))) → lv_has ls 4 [(0, .ref hT), (1, .int v1)] → fn gT gT_1 gT_15 v1 s0 = some q → W p l e R_X5_readJoining s m args below meth c H locs 0 0 (MQ below (QI D A (wX5 hT aT yT q.2.1 ++ (wX7 (aT 1) aT_1 yT_1 gT_1 ++ (wX0 hT_15 aT_15 yT_15 q.2.2))) q.1) args s 0 0 A) (F0 m 69 ls [.int s0, .ref hT_15])
def S_X5_readJoining_52 (l : Launch) (D : Dx) (hT : Nat) (aT : Nat → Nat) (yT : Nat → ClassId) (aT_1 : Nat → Nat) (yT_1 : Nat → ClassId) (hT_15 : Nat) (aT_15 : Nat → Nat) (yT_15 : Nat → ClassId) (fn : Gs → Gs → Gs → Int32 → Option (Int32 × Gs × Gs)) : Prop :=
  ∀ {p : Program} {e : Env} {s : State} {m : MethodId} {args : Array Value} {below : List Frame} {meth : Method} {c : Code} {H : Heap} {locs : List Loc} {A : Nat → Prop} {ls : Array Slot} {gT : Gs} {gT_1 : Gs} {gT_15 : Gs} {v1 : Int32} {q : Int32 × Gs × Gs}, Cx p s m args meth c cX5_readJoining (some .int) 4 RX5 lw_all → Hx D (tX5 yT ++ (tX7 yT_1 ++ (tX0 yT_15))) A s H locs (wX5 hT aT yT gT ++ (wX7 (aT 1) aT_1 yT_1 gT_1 ++ (wX0 hT_15 aT_15 yT_15 gT_15))) → lv_has ls 4 [(0, .ref hT), (1, .int v1)] → fn gT gT_1 gT_15 v1 = some q → W p l e R_X5_readJoining s m args below meth c H locs 0 0 (MQ below (QI D A (wX5 hT aT yT q.2.1 ++ (wX7 (aT 1) aT_1 yT_1 gT_1 ++ (wX0 hT_15 aT_15 yT_15 q.2.2))) q.1) args s 0 0 A) (F0 m 52 ls [])
def S_X5_readJoining_27 (l : Launch) (D : Dx) (hT : Nat) (aT : Nat → Nat) (yT : Nat → ClassId) (aT_1 : Nat → Nat) (yT_1 : Nat → ClassId) (hT_15 : Nat) (aT_15 : Nat → Nat) (yT_15 : Nat → ClassId) (fn : Gs → Gs → Gs → Int32 → Option (Int32 × Gs × Gs)) : Prop :=
  ∀ {p : Program} {e : Env} {s : State} {m : MethodId} {args : Array Value} {below : List Frame} {meth : Method} {c : Code} {H : Heap} {locs : List Loc} {A : Nat → Prop} {ls : Array Slot} {gT : Gs} {gT_1 : Gs} {gT_15 : Gs} {v1 : Int32} {q : Int32 × Gs × Gs}, Cx p s m args meth c cX5_readJoining (some .int) 4 RX5 lw_all → Hx D (tX5 yT ++ (tX7 yT_1 ++ (tX0 yT_15))) A s H locs (wX5 hT aT yT gT ++ (wX7 (aT 1) aT_1 yT_1 gT_1 ++ (wX0 hT_15 aT_15 yT_15 gT_15))) → lv_has ls 4 [(0, .ref hT), (1, .int v1)] → fn gT gT_1 gT_15 v1 = some q → W p l e R_X5_readJoining s m args below meth c H locs 0 0 (MQ below (QI D A (wX5 hT aT yT q.2.1 ++ (wX7 (aT 1) aT_1 yT_1 gT_1 ++ (wX0 hT_15 aT_15 yT_15 q.2.2))) q.1) args s 0 0 A) (F0 m 27 ls [])
set_option maxHeartbeats 4000000 in
set_option maxRecDepth 100000 in
theorem k_X5_readJoining_80 (l : Launch) (D : Dx) (hT : Nat) (aT : Nat → Nat) (yT : Nat → ClassId) (aT_1 : Nat → Nat) (yT_1 : Nat → ClassId) (hT_15 : Nat) (aT_15 : Nat → Nat) (yT_15 : Nat → ClassId) : S_X5_readJoining_80 l D hT aT yT aT_1 yT_1 hT_15 aT_15 yT_15 (b_X5_readJoining_80 hT_15) := by
  intro p e s m args below meth c H locs A ls gT gT_1 gT_15 v1 v3 q C X hl hF
  obtain ⟨hx, hb, hr, hml, hown, hts, hlk⟩ := id C
  unfold b_X5_readJoining_80 at hF
  refine lv_aload_n hx hb dX5_readJoining_80 rfl (lv_at hl 0 rfl) ?_
  refine lv_iload_n hx hb dX5_readJoining_81 rfl (lv_at hl 1 rfl) ?_
  refine lv_aload_n hx hb dX5_readJoining_82 rfl (lv_at hl 0 rfl) ?_
  refine va_get (D := D.1) (ci := 5) (v := .ref (aT 1)) (C := RX5) (T := TX5) (N := 18) hx hb hts wi_X5 hown X.1 X.2.1 0 rfl rfl 1 (by decide) (hts _ q3_52) (fun _ h9 => h9) (fl_get (by decide)) dX5_readJoining_83 ?_
  refine va_getN (D := D.1) (ci := 7) (v := .int (gI gT_1 5)) (C := RX7) (T := TX7) (N := 12) hx hb hts wi_X7 hown X.1 X.2.1 5 rfl rfl 5 (by decide) (X.2.2.2.2.2.1.use q3_2 rfl) (fun _ h9 => h9) (fl_get (by decide)) dX5_readJoining_86 ?_
  refine lv_iload_n hx hb dX5_readJoining_89 rfl (lv_at hl 2 rfl) ?_
  refine lv_iconst (v := (0 : Int32)) hx hb dX5_readJoining_90 (by decide) ?_
  obtain ⟨q_6, hc_7, hF⟩ := bnd_some hF
  refine cV_i (As := [.int v1, .int (gI gT_1 5), .int v3, .int (0 : Int32)]) (rest := []) C X (c_X5_push l D hT aT yT gT v1 (gI gT_1 5) v3 (0 : Int32) q_6 hc_7 _) (cwV 4 hts (good_V q4_117 q4_119 q0_22 q1_10 q4_120) rfl rfl rfl (by decide +kernel) ⟨Nat.le_of_ble_eq_true rfl, Nat.le_of_ble_eq_true rfl⟩) (va_recv X.1 X.2.1 (ci := 5) (q0 := 0) rfl rfl) (X.1.sub (tys' := tX5 yT) [0, 1, 2, 3] rfl) (X.2.1.sub (ws' := wX5 hT aT yT gT) [0, 1, 2, 3, 4] rfl) (X.2.2.1.sub (ws' := wX5 hT aT yT gT) [0, 1, 2, 3, 4] (by decide) rfl) (free_of (wC := wX5 hT aT yT gT) (isC := [0, 1, 2, 3, 4]) X rfl) hl.1 rfl rfl (Nat.le_of_ble_eq_true rfl) dX5_readJoining_91 ⟨Nat.le_of_ble_eq_true rfl, Nat.le_of_ble_eq_true rfl⟩ (fun t H1 locs1 ht hB hk hS => ?_)
  have X : Hx D (tX5 yT ++ (tX7 yT_1 ++ (tX0 yT_15))) A s H1 locs1 (wX5 hT aT yT q_6.2 ++ (wX7 (aT 1) aT_1 yT_1 gT_1 ++ (wX0 hT_15 aT_15 yT_15 gT_15))) := Hx_after (isC := [0, 1, 2, 3, 4]) (isR := [5, 6, 7, 8, 9, 10, 11, 12, 13, 14, 15, 16, 17, 18, 19, 20, 21]) (pm := [17, 18, 19, 20, 21, 0, 1, 2, 3, 4, 5, 6, 7, 8, 9, 10, 11, 12, 13, 14, 15, 16]) (wr := wX7 (aT 1) aT_1 yT_1 gT_1 ++ (wX0 hT_15 aT_15 yT_15 gT_15)) X ⟨rfl, rfl, by decide, by decide, rfl, by decide⟩ ht hB hk hS
  clear hk hS ht hB
  generalize H1 = H at X ⊢
  generalize locs1 = locs at X ⊢
  have hq := Option.some.inj hF
  subst hq
  exact rt_i C X dX5_readJoining_94
set_option maxHeartbeats 4000000 in
set_option maxRecDepth 100000 in
theorem k_X5_readJoining_69 (l : Launch) (D : Dx) (hT : Nat) (aT : Nat → Nat) (yT : Nat → ClassId) (aT_1 : Nat → Nat) (yT_1 : Nat → ClassId) (hT_15 : Nat) (aT_15 : Nat → Nat) (yT_15 : Nat → ClassId) : S_X5_readJoining_69 l D hT aT yT aT_1 yT_1 hT_15 aT_15 yT_15 (b_X5_readJoining_69 hT_15) := by
  intro p e s m args below meth c H locs A ls gT gT_1 gT_15 v1 s0 q C X hl hF
  obtain ⟨hx, hb, hr, hml, hown, hts, hlk⟩ := id C
  unfold b_X5_readJoining_69 at hF
  refine lv_aload_n hx hb dX5_readJoining_69 rfl (lv_at hl 0 rfl) ?_
  refine va_get (D := D.1) (ci := 5) (v := .ref (aT 1)) (C := RX5) (T := TX5) (N := 18) hx hb hts wi_X5 hown X.1 X.2.1 0 rfl rfl 1 (by decide) (hts _ q3_52) (fun _ h9 => h9) (fl_get (by decide)) dX5_readJoining_70 ?_
  refine va_getN (D := D.1) (ci := 7) (v := .int (gI gT_1 5)) (C := RX7) (T := TX7) (N := 12) hx hb hts wi_X7 hown X.1 X.2.1 5 rfl rfl 5 (by decide) (X.2.2.2.2.2.1.use q3_2 rfl) (fun _ h9 => h9) (fl_get (by decide)) dX5_readJoining_73 ?_
  obtain ⟨q_4, hc_5, hF⟩ := bnd_some hF
  refine cV_i (As := [.int s0, .int (gI gT_1 5)]) (rest := []) C X (c_X0_add l D hT_15 aT_15 yT_15 gT_15 s0 (gI gT_1 5) q_4 hc_5 _) (cwV 2 hts (good_V q4_101 q4_102 q4_103 q1_8 q4_104) rfl rfl rfl (by decide +kernel) ⟨Nat.le_of_ble_eq_true rfl, Nat.le_of_ble_eq_true rfl⟩) (va_recv X.1 X.2.1 (ci := 0) (q0 := 6) rfl rfl) (X.1.sub (tys' := tX0 yT_15) [4, 5, 6, 7, 8, 9, 10, 11, 12, 13, 14, 15, 16, 17, 18] rfl) (X.2.1.sub (ws' := wX0 hT_15 aT_15 yT_15 gT_15) [6, 7, 8, 9, 10, 11, 12, 13, 14, 15, 16, 17, 18, 19, 20, 21] rfl) (X.2.2.1.sub (ws' := wX0 hT_15 aT_15 yT_15 gT_15) [6, 7, 8, 9, 10, 11, 12, 13, 14, 15, 16, 17, 18, 19, 20, 21] (by decide) rfl) (free_of (wC := wX0 hT_15 aT_15 yT_15 gT_15) (isC := [6, 7, 8, 9, 10, 11, 12, 13, 14, 15, 16, 17, 18, 19, 20, 21]) X rfl) hl.1 rfl rfl (Nat.le_of_ble_eq_true rfl) dX5_readJoining_76 ⟨Nat.le_of_ble_eq_true rfl, Nat.le_of_ble_eq_true rfl⟩ (fun t H1 locs1 ht hB hk hS => ?_)
  have X : Hx D (tX5 yT ++ (tX7 yT_1 ++ (tX0 yT_15))) A s H1 locs1 (wX5 hT aT yT gT ++ (wX7 (aT 1) aT_1 yT_1 gT_1 ++ (wX0 hT_15 aT_15 yT_15 q_4.2))) := Hx_after (isC := [6, 7, 8, 9, 10, 11, 12, 13, 14, 15, 16, 17, 18, 19, 20, 21]) (isR := [0, 1, 2, 3, 4, 5]) (pm := [0, 1, 2, 3, 4, 5, 6, 7, 8, 9, 10, 11, 12, 13, 14, 15, 16, 17, 18, 19, 20, 21]) (wr := wX5 hT aT yT gT ++ (wX7 (aT 1) aT_1 yT_1 gT_1)) X ⟨rfl, rfl, by decide, by decide, rfl, by decide⟩ ht hB hk hS
  clear hk hS ht hB
  generalize H1 = H at X ⊢
  generalize locs1 = locs at X ⊢
  refine lv_istore_n (lv' := [(3, .int q_4.1), (0, .ref hT), (1, .int v1)]) hx hb dX5_readJoining_79 rfl hl (by decide) rfl (fun ls hl => ?_)
  exact (k_X5_readJoining_80 l D hT aT yT aT_1 yT_1 hT_15 aT_15 yT_15) C X (lv_sub hl [1, 2, 0] rfl) hF
set_option maxHeartbeats 4000000 in
set_option maxRecDepth 100000 in
theorem k_X5_readJoining_52 (l : Launch) (D : Dx) (hT : Nat) (aT : Nat → Nat) (yT : Nat → ClassId) (aT_1 : Nat → Nat) (yT_1 : Nat → ClassId) (hT_15 : Nat) (aT_15 : Nat → Nat) (yT_15 : Nat → ClassId) : S_X5_readJoining_52 l D hT aT yT aT_1 yT_1 hT_15 aT_15 yT_15 (b_X5_readJoining_52 hT_15) := by
  intro p e s m args below meth c H locs A ls gT gT_1 gT_15 v1 q C X hl hF
  obtain ⟨hx, hb, hr, hml, hown, hts, hlk⟩ := id C
  unfold b_X5_readJoining_52 at hF
  refine lv_aload_n hx hb dX5_readJoining_52 rfl (lv_at hl 0 rfl) ?_
  obtain ⟨h_3, hF⟩ := grd_some hF
  refine va_get (D := D.1) (ci := 5) (v := .ref hT_15) (C := RX5) (T := TX5) (N := 18) hx hb hts wi_X5 hown X.1 X.2.1 0 rfl rfl 15 (by decide) (hts _ q3_66) (fun _ h9 => h9) ((fl_get (by decide)).trans (rf_eq h_3)) dX5_readJoining_53 ?_
  refine lv_iload_n hx hb dX5_readJoining_56 rfl (lv_at hl 1 rfl) ?_
  refine lv_bipush (v := (61 : Int32)) hx hb dX5_readJoining_57 (by decide) ?_
  refine lv_icmp_ne (tgt := 67) hx hb dX5_readJoining_59 (by decide) (fun c => ?_) (fun c => ?_)
  · replace hF := iF c hF
    refine lv_bipush (v := (68 : Int32)) hx hb dX5_readJoining_67 (by decide) ?_
    exact (k_X5_readJoining_69 l D hT aT yT aT_1 yT_1 hT_15 aT_15 yT_15) C X (lv_sub hl [0, 1] rfl) hF
  · replace hF := iT c hF
    refine lv_bipush (v := (67 : Int32)) hx hb dX5_readJoining_62 (by decide) ?_
    refine lv_goto (tgt := 69) hx hb dX5_readJoining_64 (by decide) ?_
    exact (k_X5_readJoining_69 l D hT aT yT aT_1 yT_1 hT_15 aT_15 yT_15) C X (lv_sub hl [0, 1] rfl) hF
set_option maxHeartbeats 4000000 in
set_option maxRecDepth 100000 in
theorem k_X5_readJoining_27 (l : Launch) (D : Dx) (hT : Nat) (aT : Nat → Nat) (yT : Nat → ClassId) (aT_1 : Nat → Nat) (yT_1 : Nat → ClassId) (hT_15 : Nat) (aT_15 : Nat → Nat) (yT_15 : Nat → ClassId) : S_X5_readJoining_27 l D hT aT yT aT_1 yT_1 hT_15 aT_15 yT_15 (b_X5_readJoining_27 hT_15) := by
  intro p e s m args below meth c H locs A ls gT gT_1 gT_15 v1 q C X hl hF
  obtain ⟨hx, hb, hr, hml, hown, hts, hlk⟩ := id C
  unfold b_X5_readJoining_27 at hF
  refine lv_aload_n hx hb dX5_readJoining_27 rfl (lv_at hl 0 rfl) ?_
  refine lv_aload_n hx hb dX5_readJoining_28 rfl (lv_at hl 0 rfl) ?_
  refine va_get (D := D.1) (ci := 5) (v := .ref (aT 1)) (C := RX5) (T := TX5) (N := 18) hx hb hts wi_X5 hown X.1 X.2.1 0 rfl rfl 1 (by decide) (hts _ q3_52) (fun _ h9 => h9) (fl_get (by decide)) dX5_readJoining_29 ?_
  refine va_getN (D := D.1) (ci := 7) (v := .int (gI gT_1 5)) (C := RX7) (T := TX7) (N := 12) hx hb hts wi_X7 hown X.1 X.2.1 5 rfl rfl 5 (by decide) (X.2.2.2.2.2.1.use q3_2 rfl) (fun _ h9 => h9) (fl_get (by decide)) dX5_readJoining_32 ?_
  obtain ⟨q_1, hc_2, hF⟩ := bnd_some hF
  refine cV_v (As := [.int (gI gT_1 5)]) (rest := []) C X (c_X5_countNode l D hT aT yT hT_15 aT_15 yT_15 gT gT_15 (gI gT_1 5) q_1 hc_2 _) (cwV 1 hts (good_V q4_113 q4_115 q0_21 q1_10 q4_116) rfl rfl rfl (by decide +kernel) ⟨Nat.le_of_ble_eq_true rfl, Nat.le_of_ble_eq_true rfl⟩) (va_recv X.1 X.2.1 (ci := 5) (q0 := 0) rfl rfl) (X.1.sub (tys' := tX5 yT ++ (tX0 yT_15)) [0, 1, 2, 3, 4, 5, 6, 7, 8, 9, 10, 11, 12, 13, 14, 15, 16, 17, 18] rfl) (X.2.1.sub (ws' := wX5 hT aT yT gT ++ (wX0 hT_15 aT_15 yT_15 gT_15)) [0, 1, 2, 3, 4, 6, 7, 8, 9, 10, 11, 12, 13, 14, 15, 16, 17, 18, 19, 20, 21] rfl) (X.2.2.1.sub (ws' := wX5 hT aT yT gT ++ (wX0 hT_15 aT_15 yT_15 gT_15)) [0, 1, 2, 3, 4, 6, 7, 8, 9, 10, 11, 12, 13, 14, 15, 16, 17, 18, 19, 20, 21] (by decide) rfl) (free_of (wC := wX5 hT aT yT gT ++ (wX0 hT_15 aT_15 yT_15 gT_15)) (isC := [0, 1, 2, 3, 4, 6, 7, 8, 9, 10, 11, 12, 13, 14, 15, 16, 17, 18, 19, 20, 21]) X rfl) hl.1 rfl rfl (Nat.le_of_ble_eq_true rfl) dX5_readJoining_35 ⟨Nat.le_of_ble_eq_true rfl, Nat.le_of_ble_eq_true rfl⟩ (fun t H1 locs1 ht hB hk hS => ?_)
  have X : Hx D (tX5 yT ++ (tX7 yT_1 ++ (tX0 yT_15))) A s H1 locs1 (wX5 hT aT yT q_1.1 ++ (wX7 (aT 1) aT_1 yT_1 gT_1 ++ (wX0 hT_15 aT_15 yT_15 q_1.2))) := Hx_after (isC := [0, 1, 2, 3, 4, 6, 7, 8, 9, 10, 11, 12, 13, 14, 15, 16, 17, 18, 19, 20, 21]) (isR := [5]) (pm := [1, 2, 3, 4, 5, 0, 6, 7, 8, 9, 10, 11, 12, 13, 14, 15, 16, 17, 18, 19, 20, 21]) (wr := wX7 (aT 1) aT_1 yT_1 gT_1) X ⟨rfl, rfl, by decide, by decide, rfl, by decide⟩ ht hB hk hS
  clear hk hS ht hB
  generalize H1 = H at X ⊢
  generalize locs1 = locs at X ⊢
  refine lv_iconst (v := (-1 : Int32)) hx hb dX5_readJoining_38 (by decide) ?_
  refine lv_istore_n (lv' := [(3, .int (-1 : Int32)), (0, .ref hT), (1, .int v1)]) hx hb dX5_readJoining_39 rfl hl (by decide) rfl (fun ls hl => ?_)
  refine lv_iload_n hx hb dX5_readJoining_40 rfl (lv_at hl 2 rfl) ?_
  refine lv_bipush (v := (61 : Int32)) hx hb dX5_readJoining_41 (by decide) ?_
  refine lv_icmp_eq (tgt := 52) hx hb dX5_readJoining_43 (by decide) (fun c => ?_) (fun c => ?_)
  · replace hF := iT c hF
    exact (k_X5_readJoining_52 l D hT aT yT aT_1 yT_1 hT_15 aT_15 yT_15) C X (lv_sub hl [1, 2] rfl) hF
  · replace hF := iF c hF
    refine lv_iload_n hx hb dX5_readJoining_46 rfl (lv_at hl 2 rfl) ?_
    refine lv_bipush (v := (62 : Int32)) hx hb dX5_readJoining_47 (by decide) ?_
    refine lv_icmp_ne (tgt := 80) hx hb dX5_readJoining_49 (by decide) (fun c => ?_) (fun c => ?_)
    · replace hF := iF c hF
      exact (k_X5_readJoining_80 l D hT aT yT aT_1 yT_1 hT_15 aT_15 yT_15) C X (lv_sub hl [1, 2, 0] rfl) hF
    · replace hF := iT c hF
      exact (k_X5_readJoining_52 l D hT aT yT aT_1 yT_1 hT_15 aT_15 yT_15) C X (lv_sub hl [1, 2] rfl) hF
set_option maxHeartbeats 4000000 in
set_option maxRecDepth 100000 in
theorem c_X5_readJoining (l : Launch) (D : Dx) (hT : Nat) (aT : Nat → Nat) (yT : Nat → ClassId) (aT_1 : Nat → Nat) (yT_1 : Nat → ClassId) (hT_15 : Nat) (aT_15 : Nat → Nat) (yT_15 : Nat → ClassId) (gT : Gs) (gT_1 : Gs) (gT_15 : Gs) (x0 : Int32) (x1 : Int32) (q : Int32 × Gs × Gs) (hF : f_X5_readJoining hT_15 gT gT_1 gT_15 x0 x1 = some q) (sz : Nat) : Met l yX5_readJoining (ws_ yX5_readJoining cX5_readJoining 4 (some .int)) R_X5_readJoining (PC D (tX5 yT ++ (tX7 yT_1 ++ (tX0 yT_15))) [.ref hT, .int x0, .int x1] (wX5 hT aT yT gT ++ (wX7 (aT 1) aT_1 yT_1 gT_1 ++ (wX0 hT_15 aT_15 yT_15 gT_15))) sz) (QI D (va_A (wX5 hT aT yT gT ++ (wX7 (aT 1) aT_1 yT_1 gT_1 ++ (wX0 hT_15 aT_15 yT_15 gT_15))) sz) (wX5 hT aT yT q.2.1 ++ (wX7 (aT 1) aT_1 yT_1 gT_1 ++ (wX0 hT_15 aT_15 yT_15 q.2.2))) q.1) 0 0 (va_A (wX5 hT aT yT gT ++ (wX7 (aT 1) aT_1 yT_1 gT_1 ++ (wX0 hT_15 aT_15 yT_15 gT_15))) sz) := by
  refine Met.ofW (cc := cX5_readJoining) (maxL := 4) (ret := (some .int)) (by decide) rfl ?_
  intro p e s m args below meth c s₁ B hml hv
  obtain ⟨rfl, hsz, hP, hK, hD, hN⟩ := hv
  subst hsz
  have C : Cx p s m _ meth c cX5_readJoining (some .int) 4 RX5 lw_all := Cx_of B hml
  have X := Hx_start hP hK hD hN
  obtain ⟨hx, hb, hr, -, hown, hts, hlk⟩ := id C
  generalize va_A (wX5 hT aT yT gT ++ (wX7 (aT 1) aT_1 yT_1 gT_1 ++ (wX0 hT_15 aT_15 yT_15 gT_15))) s.heap.size = A at X ⊢
  have hl := lv_entry ([.ref hT, .int x0, .int x1]) (n := 4) (Nat.le_of_ble_eq_true rfl)
  rw [lg_entry_eq]
  generalize (lg_sl ([.ref hT, .int x0, .int x1]) ++ List.replicate (4 - (lg_sl ([.ref hT, .int x0, .int x1])).length) Slot.unset).toArray = ls at hl ⊢
  have hl : lv_has ls 4 [(0, .ref hT), (1, .int x0), (2, .int x1)] := hl
  unfold f_X5_readJoining at hF
  refine lv_aload_n hx hb dX5_readJoining_0 rfl (lv_at hl 0 rfl) ?_
  refine va_get (D := D.1) (ci := 5) (v := .int (gI gT 8)) (C := RX5) (T := TX5) (N := 18) hx hb hts wi_X5 hown X.1 X.2.1 0 rfl rfl 8 (by decide) (hts _ q3_59) (fun _ h9 => h9) (fl_get (by decide)) dX5_readJoining_1 ?_
  refine lv_if_le (tgt := 27) hx hb dX5_readJoining_4 (by decide) (fun c => ?_) (fun c => ?_)
  · replace hF := iT c hF
    exact (k_X5_readJoining_27 l D hT aT yT aT_1 yT_1 hT_15 aT_15 yT_15) C X (lv_sub hl [0, 1] rfl) hF
  · replace hF := iF c hF
    refine lv_aload_n hx hb dX5_readJoining_7 rfl (lv_at hl 0 rfl) ?_
    refine va_get (D := D.1) (ci := 5) (v := .ref (aT 4)) (C := RX5) (T := TX5) (N := 18) hx hb hts wi_X5 hown X.1 X.2.1 0 rfl rfl 4 (by decide) (hts _ q3_55) (fun _ h9 => h9) (fl_get (by decide)) dX5_readJoining_8 ?_
    refine lv_aload_n hx hb dX5_readJoining_11 rfl (lv_at hl 0 rfl) ?_
    refine va_get (D := D.1) (ci := 5) (v := .int (gI gT 8)) (C := RX5) (T := TX5) (N := 18) hx hb hts wi_X5 hown X.1 X.2.1 0 rfl rfl 8 (by decide) (hts _ q3_59) (fun _ h9 => h9) (fl_get (by decide)) dX5_readJoining_12 ?_
    refine lv_iconst (v := (1 : Int32)) hx hb dX5_readJoining_15 (by decide) ?_
    refine lv_isub hx hb dX5_readJoining_16 ?_
    obtain ⟨h_8, hF⟩ := grd_some hF
    refine va_iald (D := D.1) (f := gIA gT 4) hx hb X.1 X.2.1 1 0 rfl rfl (inB_ok h_8) dX5_readJoining_17 ?_
    obtain ⟨q_9, hc_10, hF⟩ := bnd_some hF
    refine cS_i (As := [.int (gIA gT 4 ((gI gT 8) - (1 : Int32)).toNatClampNeg)]) (rest := []) C X (c_X5_rankOf l D  (gIA gT 4 ((gI gT 8) - (1 : Int32)).toNatClampNeg) q_9 hc_10 _) (va_cwS 1 hts (good_S q4_90 q4_91 q1_10 q4_92) rfl rfl rfl (by decide +kernel) ⟨Nat.le_of_ble_eq_true rfl, Nat.le_of_ble_eq_true rfl⟩) (eK X) eP (eD (A := A)) (eF X) hl.1 rfl rfl (Nat.le_of_ble_eq_true rfl) dX5_readJoining_18 ⟨Nat.le_of_ble_eq_true rfl, Nat.le_of_ble_eq_true rfl⟩ (fun t H1 locs1 ht hB hk hS => ?_)
    have X := Hx_after_none X hk hS
    clear hk hS ht hB
    generalize H1 = H at X ⊢
    generalize locs1 = locs at X ⊢
    refine lv_iload_n hx hb dX5_readJoining_21 rfl (lv_at hl 2 rfl) ?_
    refine lv_icmp_ne (tgt := 27) hx hb dX5_readJoining_22 (by decide) (fun c => ?_) (fun c => ?_)
    · replace hF := iF c hF
      exact (k_X5_readJoining_27 l D hT aT yT aT_1 yT_1 hT_15 aT_15 yT_15) C X (lv_sub hl [0, 1] rfl) hF
    · replace hF := iT c hF
      refine lv_iconst (v := (0 : Int32)) hx hb dX5_readJoining_25 (by decide) ?_
      have hq := Option.some.inj hF
      subst hq
      exact rt_i C X dX5_readJoining_26

/-! ### X5_readQuestion -/
theorem dX5_readQuestion_0 : decode cX5_readQuestion 0 = .ok (.aload_n 0, 1) := by decide +kernel
theorem dX5_readQuestion_1 : decode cX5_readQuestion 1 = .ok (.getfield 35, 3) := by decide +kernel
theorem dX5_readQuestion_4 : decode cX5_readQuestion 4 = .ok (.bipush 40, 2) := by decide +kernel
theorem dX5_readQuestion_6 : decode cX5_readQuestion 6 = .ok (.if_icmp .lt 5, 3) := by decide +kernel
theorem dX5_readQuestion_9 : decode cX5_readQuestion 9 = .ok (.iconst 0, 1) := by decide +kernel
theorem dX5_readQuestion_10 : decode cX5_readQuestion 10 = .ok (.ireturn, 1) := by decide +kernel
theorem dX5_readQuestion_11 : decode cX5_readQuestion 11 = .ok (.aload_n 0, 1) := by decide +kernel
theorem dX5_readQuestion_12 : decode cX5_readQuestion 12 = .ok (.aload_n 0, 1) := by decide +kernel
theorem dX5_readQuestion_13 : decode cX5_readQuestion 13 = .ok (.getfield 77, 3) := by decide +kernel
theorem dX5_readQuestion_16 : decode cX5_readQuestion 16 = .ok (.getfield 114, 3) := by decide +kernel
theorem dX5_readQuestion_19 : decode cX5_readQuestion 19 = .ok (.invokevirtual 260, 3) := by decide +kernel
theorem dX5_readQuestion_22 : decode cX5_readQuestion 22 = .ok (.aload_n 0, 1) := by decide +kernel
theorem dX5_readQuestion_23 : decode cX5_readQuestion 23 = .ok (.bipush 44, 2) := by decide +kernel
theorem dX5_readQuestion_25 : decode cX5_readQuestion 25 = .ok (.aload_n 0, 1) := by decide +kernel
theorem dX5_readQuestion_26 : decode cX5_readQuestion 26 = .ok (.getfield 77, 3) := by decide +kernel
theorem dX5_readQuestion_29 : decode cX5_readQuestion 29 = .ok (.getfield 114, 3) := by decide +kernel
theorem dX5_readQuestion_32 : decode cX5_readQuestion 32 = .ok (.aload_n 0, 1) := by decide +kernel
theorem dX5_readQuestion_33 : decode cX5_readQuestion 33 = .ok (.getfield 71, 3) := by decide +kernel
theorem dX5_readQuestion_36 : decode cX5_readQuestion 36 = .ok (.bipush 69, 2) := by decide +kernel
theorem dX5_readQuestion_38 : decode cX5_readQuestion 38 = .ok (.aload_n 0, 1) := by decide +kernel
theorem dX5_readQuestion_39 : decode cX5_readQuestion 39 = .ok (.getfield 77, 3) := by decide +kernel
theorem dX5_readQuestion_42 : decode cX5_readQuestion 42 = .ok (.getfield 114, 3) := by decide +kernel
theorem dX5_readQuestion_45 : decode cX5_readQuestion 45 = .ok (.invokevirtual 244, 3) := by decide +kernel
theorem dX5_readQuestion_48 : decode cX5_readQuestion 48 = .ok (.iconst 0, 1) := by decide +kernel
theorem dX5_readQuestion_49 : decode cX5_readQuestion 49 = .ok (.invokevirtual 263, 3) := by decide +kernel
theorem dX5_readQuestion_52 : decode cX5_readQuestion 52 = .ok (.ireturn, 1) := by decide +kernel
abbrev R_X5_readQuestion : Room := ({ frames := 2, cells := 0, slots := 0, locals := 48 } : Room)
def f_X5_readQuestion (hT_15 : Nat) (gT : Gs) (gT_1 : Gs) (gT_15 : Gs) : Option (Int32 × Gs × Gs) :=
  if (gI gT 9) < (40 : Int32) then (bnd (f_X5_countNode hT_15 gT gT_15 (gI gT_1 5)) (fun q_1 => grd (rEq (gR q_1.1 15) hT_15) (bnd (f_X0_add q_1.2 (69 : Int32) (gI gT_1 5)) (fun q_4 => bnd (f_X5_enter q_1.1 (44 : Int32) (gI gT_1 5) q_4.1 (0 : Int32)) (fun q_6 => some (q_6.1, q_6.2, q_4.2)))))) else (some ((0 : Int32), gT, gT_15))
set_option maxHeartbeats 4000000 in
set_option maxRecDepth 100000 in
theorem c_X5_readQuestion (l : Launch) (D : Dx) (hT : Nat) (aT : Nat → Nat) (yT : Nat → ClassId) (aT_1 : Nat → Nat) (yT_1 : Nat → ClassId) (hT_15 : Nat) (aT_15 : Nat → Nat) (yT_15 : Nat → ClassId) (gT : Gs) (gT_1 : Gs) (gT_15 : Gs) (q : Int32 × Gs × Gs) (hF : f_X5_readQuestion hT_15 gT gT_1 gT_15 = some q) (sz : Nat) : Met l yX5_readQuestion (ws_ yX5_readQuestion cX5_readQuestion 1 (some .int)) R_X5_readQuestion (PC D (tX5 yT ++ (tX7 yT_1 ++ (tX0 yT_15))) [.ref hT] (wX5 hT aT yT gT ++ (wX7 (aT 1) aT_1 yT_1 gT_1 ++ (wX0 hT_15 aT_15 yT_15 gT_15))) sz) (QI D (va_A (wX5 hT aT yT gT ++ (wX7 (aT 1) aT_1 yT_1 gT_1 ++ (wX0 hT_15 aT_15 yT_15 gT_15))) sz) (wX5 hT aT yT q.2.1 ++ (wX7 (aT 1) aT_1 yT_1 gT_1 ++ (wX0 hT_15 aT_15 yT_15 q.2.2))) q.1) 0 0 (va_A (wX5 hT aT yT gT ++ (wX7 (aT 1) aT_1 yT_1 gT_1 ++ (wX0 hT_15 aT_15 yT_15 gT_15))) sz) := by
  refine Met.ofW (cc := cX5_readQuestion) (maxL := 1) (ret := (some .int)) (by decide) rfl ?_
  intro p e s m args below meth c s₁ B hml hv
  obtain ⟨rfl, hsz, hP, hK, hD, hN⟩ := hv
  subst hsz
  have C : Cx p s m _ meth c cX5_readQuestion (some .int) 1 RX5 lw_all := Cx_of B hml
  have X := Hx_start hP hK hD hN
  obtain ⟨hx, hb, hr, -, hown, hts, hlk⟩ := id C
  generalize va_A (wX5 hT aT yT gT ++ (wX7 (aT 1) aT_1 yT_1 gT_1 ++ (wX0 hT_15 aT_15 yT_15 gT_15))) s.heap.size = A at X ⊢
  have hl := lv_entry ([.ref hT]) (n := 1) (Nat.le_of_ble_eq_true rfl)
  rw [lg_entry_eq]
  generalize (lg_sl ([.ref hT]) ++ List.replicate (1 - (lg_sl ([.ref hT])).length) Slot.unset).toArray = ls at hl ⊢
  have hl : lv_has ls 1 [(0, .ref hT)] := hl
  unfold f_X5_readQuestion at hF
  refine lv_aload_n hx hb dX5_readQuestion_0 rfl (lv_at hl 0 rfl) ?_
  refine va_get (D := D.1) (ci := 5) (v := .int (gI gT 9)) (C := RX5) (T := TX5) (N := 18) hx hb hts wi_X5 hown X.1 X.2.1 0 rfl rfl 9 (by decide) (hts _ q3_60) (fun _ h9 => h9) (fl_get (by decide)) dX5_readQuestion_1 ?_
  refine lv_bipush (v := (40 : Int32)) hx hb dX5_readQuestion_4 (by decide) ?_
  refine lv_icmp_lt (tgt := 11) hx hb dX5_readQuestion_6 (by decide) (fun c => ?_) (fun c => ?_)
  · replace hF := iT c hF
    refine lv_aload_n hx hb dX5_readQuestion_11 rfl (lv_at hl 0 rfl) ?_
    refine lv_aload_n hx hb dX5_readQuestion_12 rfl (lv_at hl 0 rfl) ?_
    refine va_get (D := D.1) (ci := 5) (v := .ref (aT 1)) (C := RX5) (T := TX5) (N := 18) hx hb hts wi_X5 hown X.1 X.2.1 0 rfl rfl 1 (by decide) (hts _ q3_52) (fun _ h9 => h9) (fl_get (by decide)) dX5_readQuestion_13 ?_
    refine va_getN (D := D.1) (ci := 7) (v := .int (gI gT_1 5)) (C := RX7) (T := TX7) (N := 12) hx hb hts wi_X7 hown X.1 X.2.1 5 rfl rfl 5 (by decide) (X.2.2.2.2.2.1.use q3_2 rfl) (fun _ h9 => h9) (fl_get (by decide)) dX5_readQuestion_16 ?_
    obtain ⟨q_1, hc_2, hF⟩ := bnd_some hF
    refine cV_v (As := [.int (gI gT_1 5)]) (rest := []) C X (c_X5_countNode l D hT aT yT hT_15 aT_15 yT_15 gT gT_15 (gI gT_1 5) q_1 hc_2 _) (cwV 1 hts (good_V q4_113 q4_115 q0_21 q1_10 q4_116) rfl rfl rfl (by decide +kernel) ⟨Nat.le_of_ble_eq_true rfl, Nat.le_of_ble_eq_true rfl⟩) (va_recv X.1 X.2.1 (ci := 5) (q0 := 0) rfl rfl) (X.1.sub (tys' := tX5 yT ++ (tX0 yT_15)) [0, 1, 2, 3, 4, 5, 6, 7, 8, 9, 10, 11, 12, 13, 14, 15, 16, 17, 18] rfl) (X.2.1.sub (ws' := wX5 hT aT yT gT ++ (wX0 hT_15 aT_15 yT_15 gT_15)) [0, 1, 2, 3, 4, 6, 7, 8, 9, 10, 11, 12, 13, 14, 15, 16, 17, 18, 19, 20, 21] rfl) (X.2.2.1.sub (ws' := wX5 hT aT yT gT ++ (wX0 hT_15 aT_15 yT_15 gT_15)) [0, 1, 2, 3, 4, 6, 7, 8, 9, 10, 11, 12, 13, 14, 15, 16, 17, 18, 19, 20, 21] (by decide) rfl) (free_of (wC := wX5 hT aT yT gT ++ (wX0 hT_15 aT_15 yT_15 gT_15)) (isC := [0, 1, 2, 3, 4, 6, 7, 8, 9, 10, 11, 12, 13, 14, 15, 16, 17, 18, 19, 20, 21]) X rfl) hl.1 rfl rfl (Nat.le_of_ble_eq_true rfl) dX5_readQuestion_19 ⟨Nat.le_of_ble_eq_true rfl, Nat.le_of_ble_eq_true rfl⟩ (fun t H1 locs1 ht hB hk hS => ?_)
    have X : Hx D (tX5 yT ++ (tX7 yT_1 ++ (tX0 yT_15))) A s H1 locs1 (wX5 hT aT yT q_1.1 ++ (wX7 (aT 1) aT_1 yT_1 gT_1 ++ (wX0 hT_15 aT_15 yT_15 q_1.2))) := Hx_after (isC := [0, 1, 2, 3, 4, 6, 7, 8, 9, 10, 11, 12, 13, 14, 15, 16, 17, 18, 19, 20, 21]) (isR := [5]) (pm := [1, 2, 3, 4, 5, 0, 6, 7, 8, 9, 10, 11, 12, 13, 14, 15, 16, 17, 18, 19, 20, 21]) (wr := wX7 (aT 1) aT_1 yT_1 gT_1) X ⟨rfl, rfl, by decide, by decide, rfl, by decide⟩ ht hB hk hS
    clear hk hS ht hB
    generalize H1 = H at X ⊢
    generalize locs1 = locs at X ⊢
    refine lv_aload_n hx hb dX5_readQuestion_22 rfl (lv_at hl 0 rfl) ?_
    refine lv_bipush (v := (44 : Int32)) hx hb dX5_readQuestion_23 (by decide) ?_
    refine lv_aload_n hx hb dX5_readQuestion_25 rfl (lv_at hl 0 rfl) ?_
    refine va_get (D := D.1) (ci := 5) (v := .ref (aT 1)) (C := RX5) (T := TX5) (N := 18) hx hb hts wi_X5 hown X.1 X.2.1 0 rfl rfl 1 (by decide) (hts _ q3_52) (fun _ h9 => h9) (fl_get (by decide)) dX5_readQuestion_26 ?_
    refine va_getN (D := D.1) (ci := 7) (v := .int (gI gT_1 5)) (C := RX7) (T := TX7) (N := 12) hx hb hts wi_X7 hown X.1 X.2.1 5 rfl rfl 5 (by decide) (X.2.2.2.2.2.1.use q3_2 rfl) (fun _ h9 => h9) (fl_get (by decide)) dX5_readQuestion_29 ?_
    refine lv_aload_n hx hb dX5_readQuestion_32 rfl (lv_at hl 0 rfl) ?_
    obtain ⟨h_3, hF⟩ := grd_some hF
    refine va_get (D := D.1) (ci := 5) (v := .ref hT_15) (C := RX5) (T := TX5) (N := 18) hx hb hts wi_X5 hown X.1 X.2.1 0 rfl rfl 15 (by decide) (hts _ q3_66) (fun _ h9 => h9) ((fl_get (by decide)).trans (rf_eq h_3)) dX5_readQuestion_33 ?_
    refine lv_bipush (v := (69 : Int32)) hx hb dX5_readQuestion_36 (by decide) ?_
    refine lv_aload_n hx hb dX5_readQuestion_38 rfl (lv_at hl 0 rfl) ?_
    refine va_get (D := D.1) (ci := 5) (v := .ref (aT 1)) (C := RX5) (T := TX5) (N := 18) hx hb hts wi_X5 hown X.1 X.2.1 0 rfl rfl 1 (by decide) (hts _ q3_52) (fun _ h9 => h9) (fl_get (by decide)) dX5_readQuestion_39 ?_
    refine va_getN (D := D.1) (ci := 7) (v := .int (gI gT_1 5)) (C := RX7) (T := TX7) (N := 12) hx hb hts wi_X7 hown X.1 X.2.1 5 rfl rfl 5 (by decide) (X.2.2.2.2.2.1.use q3_2 rfl) (fun _ h9 => h9) (fl_get (by decide)) dX5_readQuestion_42 ?_
    obtain ⟨q_4, hc_5, hF⟩ := bnd_some hF
    refine cV_i (As := [.int (69 : Int32), .int (gI gT_1 5)]) (rest := [.int (gI gT_1 5), .int (44 : Int32), .ref hT]) C X (c_X0_add l D hT_15 aT_15 yT_15 q_1.2 (69 : Int32) (gI gT_1 5) q_4 hc_5 _) (cwV 2 hts (good_V q4_101 q4_102 q4_103 q1_8 q4_104) rfl rfl rfl (by decide +kernel) ⟨Nat.le_of_ble_eq_true rfl, Nat.le_of_ble_eq_true rfl⟩) (va_recv X.1 X.2.1 (ci := 0) (q0 := 6) rfl rfl) (X.1.sub (tys' := tX0 yT_15) [4, 5, 6, 7, 8, 9, 10, 11, 12, 13, 14, 15, 16, 17, 18] rfl) (X.2.1.sub (ws' := wX0 hT_15 aT_15 yT_15 q_1.2) [6, 7, 8, 9, 10, 11, 12, 13, 14, 15, 16, 17, 18, 19, 20, 21] rfl) (X.2.2.1.sub (ws' := wX0 hT_15 aT_15 yT_15 q_1.2) [6, 7, 8, 9, 10, 11, 12, 13, 14, 15, 16, 17, 18, 19, 20, 21] (by decide) rfl) (free_of (wC := wX0 hT_15 aT_15 yT_15 q_1.2) (isC := [6, 7, 8, 9, 10, 11, 12, 13, 14, 15, 16, 17, 18, 19, 20, 21]) X rfl) hl.1 rfl rfl (Nat.le_of_ble_eq_true rfl) dX5_readQuestion_45 ⟨Nat.le_of_ble_eq_true rfl, Nat.le_of_ble_eq_true rfl⟩ (fun t H1 locs1 ht hB hk hS => ?_)
    have X : Hx D (tX5 yT ++ (tX7 yT_1 ++ (tX0 yT_15))) A s H1 locs1 (wX5 hT aT yT q_1.1 ++ (wX7 (aT 1) aT_1 yT_1 gT_1 ++ (wX0 hT_15 aT_15 yT_15 q_4.2))) := Hx_after (isC := [6, 7, 8, 9, 10, 11, 12, 13, 14, 15, 16, 17, 18, 19, 20, 21]) (isR := [0, 1, 2, 3, 4, 5]) (pm := [0, 1, 2, 3, 4, 5, 6, 7, 8, 9, 10, 11, 12, 13, 14, 15, 16, 17, 18, 19, 20, 21]) (wr := wX5 hT aT yT q_1.1 ++ (wX7 (aT 1) aT_1 yT_1 gT_1)) X ⟨rfl, rfl, by decide, by decide, rfl, by decide⟩ ht hB hk hS
    clear hk hS ht hB
    generalize H1 = H at X ⊢
    generalize locs1 = locs at X ⊢
    refine lv_iconst (v := (0 : Int32)) hx hb dX5_readQuestion_48 (by decide) ?_
    obtain ⟨q_6, hc_7, hF⟩ := bnd_some hF
    refine cV_i (As := [.int (44 : Int32), .int (gI gT_1 5), .int q_4.1, .int (0 : Int32)]) (rest := []) C X (c_X5_enter l D hT aT yT q_1.1 (44 : Int32) (gI gT_1 5) q_4.1 (0 : Int32) q_6 hc_7 _) (cwV 4 hts (good_V q4_125 q4_127 q0_24 q1_10 q4_128) rfl rfl rfl (by decide +kernel) ⟨Nat.le_of_ble_eq_true rfl, Nat.le_of_ble_eq_true rfl⟩) (va_recv X.1 X.2.1 (ci := 5) (q0 := 0) rfl rfl) (X.1.sub (tys' := tX5 yT) [0, 1, 2, 3] rfl) (X.2.1.sub (ws' := wX5 hT aT yT q_1.1) [0, 1, 2, 3, 4] rfl) (X.2.2.1.sub (ws' := wX5 hT aT yT q_1.1) [0, 1, 2, 3, 4] (by decide) rfl) (free_of (wC := wX5 hT aT yT q_1.1) (isC := [0, 1, 2, 3, 4]) X rfl) hl.1 rfl rfl (Nat.le_of_ble_eq_true rfl) dX5_readQuestion_49 ⟨Nat.le_of_ble_eq_true rfl, Nat.le_of_ble_eq_true rfl⟩ (fun t H1 locs1 ht hB hk hS => ?_)
    have X : Hx D (tX5 yT ++ (tX7 yT_1 ++ (tX0 yT_15))) A s H1 locs1 (wX5 hT aT yT q_6.2 ++ (wX7 (aT 1) aT_1 yT_1 gT_1 ++ (wX0 hT_15 aT_15 yT_15 q_4.2))) := Hx_after (isC := [0, 1, 2, 3, 4]) (isR := [5, 6, 7, 8, 9, 10, 11, 12, 13, 14, 15, 16, 17, 18, 19, 20, 21]) (pm := [17, 18, 19, 20, 21, 0, 1, 2, 3, 4, 5, 6, 7, 8, 9, 10, 11, 12, 13, 14, 15, 16]) (wr := wX7 (aT 1) aT_1 yT_1 gT_1 ++ (wX0 hT_15 aT_15 yT_15 q_4.2)) X ⟨rfl, rfl, by decide, by decide, rfl, by decide⟩ ht hB hk hS
    clear hk hS ht hB
    generalize H1 = H at X ⊢
    generalize locs1 = locs at X ⊢
    have hq := Option.some.inj hF
    subst hq
    exact rt_i C X dX5_readQuestion_52
  · replace hF := iF c hF
    refine lv_iconst (v := (0 : Int32)) hx hb dX5_readQuestion_9 (by decide) ?_
    have hq := Option.some.inj hF
    subst hq
    exact rt_i C X dX5_readQuestion_10

/-! ### X5_readElse -/
theorem dX5_readElse_0 : decode cX5_readElse 0 = .ok (.aload_n 0, 1) := by decide +kernel
theorem dX5_readElse_1 : decode cX5_readElse 1 = .ok (.getfield 31, 3) := by decide +kernel
theorem dX5_readElse_4 : decode cX5_readElse 4 = .ok (.iconst 1, 1) := by decide +kernel
theorem dX5_readElse_5 : decode cX5_readElse 5 = .ok (.isub, 1) := by decide +kernel
theorem dX5_readElse_6 : decode cX5_readElse 6 = .ok (.istore_n 1, 1) := by decide +kernel
theorem dX5_readElse_7 : decode cX5_readElse 7 = .ok (.iload_n 1, 1) := by decide +kernel
theorem dX5_readElse_8 : decode cX5_readElse 8 = .ok (.ifCond .ge 5, 3) := by decide +kernel
theorem dX5_readElse_11 : decode cX5_readElse 11 = .ok (.iconst 0, 1) := by decide +kernel
theorem dX5_readElse_12 : decode cX5_readElse 12 = .ok (.ireturn, 1) := by decide +kernel
theorem dX5_readElse_13 : decode cX5_readElse 13 = .ok (.aload_n 0, 1) := by decide +kernel
theorem dX5_readElse_14 : decode cX5_readElse 14 = .ok (.getfield 71, 3) := by decide +kernel
theorem dX5_readElse_17 : decode cX5_readElse 17 = .ok (.bipush 70, 2) := by decide +kernel
theorem dX5_readElse_19 : decode cX5_readElse 19 = .ok (.aload_n 0, 1) := by decide +kernel
theorem dX5_readElse_20 : decode cX5_readElse 20 = .ok (.getfield 22, 3) := by decide +kernel
theorem dX5_readElse_23 : decode cX5_readElse 23 = .ok (.iload_n 1, 1) := by decide +kernel
theorem dX5_readElse_24 : decode cX5_readElse 24 = .ok (.iaload, 1) := by decide +kernel
theorem dX5_readElse_25 : decode cX5_readElse 25 = .ok (.invokevirtual 244, 3) := by decide +kernel
theorem dX5_readElse_28 : decode cX5_readElse 28 = .ok (.istore_n 2, 1) := by decide +kernel
theorem dX5_readElse_29 : decode cX5_readElse 29 = .ok (.aload_n 0, 1) := by decide +kernel
theorem dX5_readElse_30 : decode cX5_readElse 30 = .ok (.aload_n 0, 1) := by decide +kernel
theorem dX5_readElse_31 : decode cX5_readElse 31 = .ok (.getfield 25, 3) := by decide +kernel
theorem dX5_readElse_34 : decode cX5_readElse 34 = .ok (.iload_n 1, 1) := by decide +kernel
theorem dX5_readElse_35 : decode cX5_readElse 35 = .ok (.iaload, 1) := by decide +kernel
theorem dX5_readElse_36 : decode cX5_readElse 36 = .ok (.iload_n 2, 1) := by decide +kernel
theorem dX5_readElse_37 : decode cX5_readElse 37 = .ok (.invokevirtual 305, 3) := by decide +kernel
theorem dX5_readElse_40 : decode cX5_readElse 40 = .ok (.aload_n 0, 1) := by decide +kernel
theorem dX5_readElse_41 : decode cX5_readElse 41 = .ok (.getfield 18, 3) := by decide +kernel
theorem dX5_readElse_44 : decode cX5_readElse 44 = .ok (.iload_n 1, 1) := by decide +kernel
theorem dX5_readElse_45 : decode cX5_readElse 45 = .ok (.bipush 70, 2) := by decide +kernel
theorem dX5_readElse_47 : decode cX5_readElse 47 = .ok (.iastore, 1) := by decide +kernel
theorem dX5_readElse_48 : decode cX5_readElse 48 = .ok (.aload_n 0, 1) := by decide +kernel
theorem dX5_readElse_49 : decode cX5_readElse 49 = .ok (.getfield 25, 3) := by decide +kernel
theorem dX5_readElse_52 : decode cX5_readElse 52 = .ok (.iload_n 1, 1) := by decide +kernel
theorem dX5_readElse_53 : decode cX5_readElse 53 = .ok (.iload_n 2, 1) := by decide +kernel
theorem dX5_readElse_54 : decode cX5_readElse 54 = .ok (.iastore, 1) := by decide +kernel
theorem dX5_readElse_55 : decode cX5_readElse 55 = .ok (.iconst 2, 1) := by decide +kernel
theorem dX5_readElse_56 : decode cX5_readElse 56 = .ok (.ireturn, 1) := by decide +kernel
abbrev R_X5_readElse : Room := ({ frames := 1, cells := 0, slots := 0, locals := 23 } : Room)
def f_X5_readElse (hT_15 : Nat) (gT : Gs) (gT_15 : Gs) : Option (Int32 × Gs × Gs) :=
  if 0 ≤ ((gI gT 8) - (1 : Int32)) then (grd (rEq (gR gT 15) hT_15) (grd (inB ((gI gT 8) - (1 : Int32)) 320) (bnd (f_X0_add gT_15 (70 : Int32) (gIA gT 5 ((gI gT 8) - (1 : Int32)).toNatClampNeg)) (fun q_3 => grd (inB ((gI gT 8) - (1 : Int32)) 320) (bnd (f_X5_skipTo hT_15 gT q_3.2 (gIA gT 6 ((gI gT 8) - (1 : Int32)).toNatClampNeg) q_3.1) (fun q_6 => grd (inB ((gI gT 8) - (1 : Int32)) 320) (grd (inB ((gI gT 8) - (1 : Int32)) 320) (some ((2 : Int32), (sIA (sIA gT 4 (upd (gIA gT 4) ((gI gT 8) - (1 : Int32)).toNatClampNeg (70 : Int32))) 6 (upd (gIA gT 6) ((gI gT 8) - (1 : Int32)).toNatClampNeg q_3.1)), q_6))))))))) else (some ((0 : Int32), gT, gT_15))
set_option maxHeartbeats 4000000 in
set_option maxRecDepth 100000 in
theorem c_X5_readElse (l : Launch) (D : Dx) (hT : Nat) (aT : Nat → Nat) (yT : Nat → ClassId) (hT_15 : Nat) (aT_15 : Nat → Nat) (yT_15 : Nat → ClassId) (gT : Gs) (gT_15 : Gs) (q : Int32 × Gs × Gs) (hF : f_X5_readElse hT_15 gT gT_15 = some q) (sz : Nat) : Met l yX5_readElse (ws_ yX5_readElse cX5_readElse 3 (some .int)) R_X5_readElse (PC D (tX5 yT ++ (tX0 yT_15)) [.ref hT] (wX5 hT aT yT gT ++ (wX0 hT_15 aT_15 yT_15 gT_15)) sz) (QI D (va_A (wX5 hT aT yT gT ++ (wX0 hT_15 aT_15 yT_15 gT_15)) sz) (wX5 hT aT yT q.2.1 ++ (wX0 hT_15 aT_15 yT_15 q.2.2)) q.1) 0 0 (va_A (wX5 hT aT yT gT ++ (wX0 hT_15 aT_15 yT_15 gT_15)) sz) := by
  refine Met.ofW (cc := cX5_readElse) (maxL := 3) (ret := (some .int)) (by decide) rfl ?_
  intro p e s m args below meth c s₁ B hml hv
  obtain ⟨rfl, hsz, hP, hK, hD, hN⟩ := hv
  subst hsz
  have C : Cx p s m _ meth c cX5_readElse (some .int) 3 RX5 lw_all := Cx_of B hml
  have X := Hx_start hP hK hD hN
  obtain ⟨hx, hb, hr, -, hown, hts, hlk⟩ := id C
  generalize va_A (wX5 hT aT yT gT ++ (wX0 hT_15 aT_15 yT_15 gT_15)) s.heap.size = A at X ⊢
  have hl := lv_entry ([.ref hT]) (n := 3) (Nat.le_of_ble_eq_true rfl)
  rw [lg_entry_eq]
  generalize (lg_sl ([.ref hT]) ++ List.replicate (3 - (lg_sl ([.ref hT])).length) Slot.unset).toArray = ls at hl ⊢
  have hl : lv_has ls 3 [(0, .ref hT)] := hl
  unfold f_X5_readElse at hF
  refine lv_aload_n hx hb dX5_readElse_0 rfl (lv_at hl 0 rfl) ?_
  refine va_get (D := D.1) (ci := 5) (v := .int (gI gT 8)) (C := RX5) (T := TX5) (N := 18) hx hb hts wi_X5 hown X.1 X.2.1 0 rfl rfl 8 (by decide) (hts _ q3_59) (fun _ h9 => h9) (fl_get (by decide)) dX5_readElse_1 ?_
  refine lv_iconst (v := (1 : Int32)) hx hb dX5_readElse_4 (by decide) ?_
  refine lv_isub hx hb dX5_readElse_5 ?_
  refine lv_istore_n (lv' := [(1, .int ((gI gT 8) - (1 : Int32))), (0, .ref hT)]) hx hb dX5_readElse_6 rfl hl (by decide) rfl (fun ls hl => ?_)
  refine lv_iload_n hx hb dX5_readElse_7 rfl (lv_at hl 0 rfl) ?_
  refine lv_if_ge (tgt := 13) hx hb dX5_readElse_8 (by decide) (fun c => ?_) (fun c => ?_)
  · replace hF := iT c hF
    refine lv_aload_n hx hb dX5_readElse_13 rfl (lv_at hl 1 rfl) ?_
    obtain ⟨h_1, hF⟩ := grd_some hF
    refine va_get (D := D.1) (ci := 5) (v := .ref hT_15) (C := RX5) (T := TX5) (N := 18) hx hb hts wi_X5 hown X.1 X.2.1 0 rfl rfl 15 (by decide) (hts _ q3_66) (fun _ h9 => h9) ((fl_get (by decide)).trans (rf_eq h_1)) dX5_readElse_14 ?_
    refine lv_bipush (v := (70 : Int32)) hx hb dX5_readElse_17 (by decide) ?_
    refine lv_aload_n hx hb dX5_readElse_19 rfl (lv_at hl 1 rfl) ?_
    refine va_get (D := D.1) (ci := 5) (v := .ref (aT 5)) (C := RX5) (T := TX5) (N := 18) hx hb hts wi_X5 hown X.1 X.2.1 0 rfl rfl 5 (by decide) (hts _ q3_56) (fun _ h9 => h9) (fl_get (by decide)) dX5_readElse_20 ?_
    refine lv_iload_n hx hb dX5_readElse_23 rfl (lv_at hl 0 rfl) ?_
    obtain ⟨h_2, hF⟩ := grd_some hF
    refine va_iald (D := D.1) (f := gIA gT 5) hx hb X.1 X.2.1 2 1 rfl rfl (inB_ok h_2) dX5_readElse_24 ?_
    obtain ⟨q_3, hc_4, hF⟩ := bnd_some hF
    refine cV_i (As := [.int (70 : Int32), .int (gIA gT 5 ((gI gT 8) - (1 : Int32)).toNatClampNeg)]) (rest := []) C X (c_X0_add l D hT_15 aT_15 yT_15 gT_15 (70 : Int32) (gIA gT 5 ((gI gT 8) - (1 : Int32)).toNatClampNeg) q_3 hc_4 _) (cwV 2 hts (good_V q4_101 q4_102 q4_103 q1_8 q4_104) rfl rfl rfl (by decide +kernel) ⟨Nat.le_of_ble_eq_true rfl, Nat.le_of_ble_eq_true rfl⟩) (va_recv X.1 X.2.1 (ci := 0) (q0 := 5) rfl rfl) (X.1.sub (tys' := tX0 yT_15) [4, 5, 6, 7, 8, 9, 10, 11, 12, 13, 14, 15, 16, 17, 18] rfl) (X.2.1.sub (ws' := wX0 hT_15 aT_15 yT_15 gT_15) [5, 6, 7, 8, 9, 10, 11, 12, 13, 14, 15, 16, 17, 18, 19, 20] rfl) (X.2.2.1.sub (ws' := wX0 hT_15 aT_15 yT_15 gT_15) [5, 6, 7, 8, 9, 10, 11, 12, 13, 14, 15, 16, 17, 18, 19, 20] (by decide) rfl) (free_of (wC := wX0 hT_15 aT_15 yT_15 gT_15) (isC := [5, 6, 7, 8, 9, 10, 11, 12, 13, 14, 15, 16, 17, 18, 19, 20]) X rfl) hl.1 rfl rfl (Nat.le_of_ble_eq_true rfl) dX5_readElse_25 ⟨Nat.le_of_ble_eq_true rfl, Nat.le_of_ble_eq_true rfl⟩ (fun t H1 locs1 ht hB hk hS => ?_)
    have X : Hx D (tX5 yT ++ (tX0 yT_15)) A s H1 locs1 (wX5 hT aT yT gT ++ (wX0 hT_15 aT_15 yT_15 q_3.2)) := Hx_after (isC := [5, 6, 7, 8, 9, 10, 11, 12, 13, 14, 15, 16, 17, 18, 19, 20]) (isR := [0, 1, 2, 3, 4]) (pm := [0, 1, 2, 3, 4, 5, 6, 7, 8, 9, 10, 11, 12, 13, 14, 15, 16, 17, 18, 19, 20]) (wr := wX5 hT aT yT gT) X ⟨rfl, rfl, by decide, by decide, rfl, by decide⟩ ht hB hk hS
    clear hk hS ht hB
    generalize H1 = H at X ⊢
    generalize locs1 = locs at X ⊢
    refine lv_istore_n (lv' := [(2, .int q_3.1), (1, .int ((gI gT 8) - (1 : Int32))), (0, .ref hT)]) hx hb dX5_readElse_28 rfl hl (by decide) rfl (fun ls hl => ?_)
    refine lv_aload_n hx hb dX5_readElse_29 rfl (lv_at hl 2 rfl) ?_
    refine lv_aload_n hx hb dX5_readElse_30 rfl (lv_at hl 2 rfl) ?_
    refine va_get (D := D.1) (ci := 5) (v := .ref (aT 6)) (C := RX5) (T := TX5) (N := 18) hx hb hts wi_X5 hown X.1 X.2.1 0 rfl rfl 6 (by decide) (hts _ q3_57) (fun _ h9 => h9) (fl_get (by decide)) dX5_readElse_31 ?_
    refine lv_iload_n hx hb dX5_readElse_34 rfl (lv_at hl 1 rfl) ?_
    obtain ⟨h_5, hF⟩ := grd_some hF
    refine va_iald (D := D.1) (f := gIA gT 6) hx hb X.1 X.2.1 3 2 rfl rfl (inB_ok h_5) dX5_readElse_35 ?_
    refine lv_iload_n hx hb dX5_readElse_36 rfl (lv_at hl 0 rfl) ?_
    obtain ⟨q_6, hc_7, hF⟩ := bnd_some hF
    refine cV_v (As := [.int (gIA gT 6 ((gI gT 8) - (1 : Int32)).toNatClampNeg), .int q_3.1]) (rest := []) C X (c_X5_skipTo l D hT aT yT hT_15 aT_15 yT_15 gT q_3.2 (gIA gT 6 ((gI gT 8) - (1 : Int32)).toNatClampNeg) q_3.1 q_6 hc_7 _) (cwV 2 hts (good_V q4_105 q4_107 q0_19 q1_10 q4_108) rfl rfl rfl (by decide +kernel) ⟨Nat.le_of_ble_eq_true rfl, Nat.le_of_ble_eq_true rfl⟩) (va_recv X.1 X.2.1 (ci := 5) (q0 := 0) rfl rfl) X.1 X.2.1 X.2.2.1 (free_all X) hl.1 rfl rfl (Nat.le_of_ble_eq_true rfl) dX5_readElse_37 ⟨Nat.le_of_ble_eq_true rfl, Nat.le_of_ble_eq_true rfl⟩ (fun t H1 locs1 ht hB hk hS => ?_)
    have X : Hx D (tX5 yT ++ (tX0 yT_15)) A s H1 locs1 (wX5 hT aT yT gT ++ (wX0 hT_15 aT_15 yT_15 q_6)) := Hx_after_all X ht hB hS
    clear hk hS ht hB
    generalize H1 = H at X ⊢
    generalize locs1 = locs at X ⊢
    refine lv_aload_n hx hb dX5_readElse_40 rfl (lv_at hl 2 rfl) ?_
    refine va_get (D := D.1) (ci := 5) (v := .ref (aT 4)) (C := RX5) (T := TX5) (N := 18) hx hb hts wi_X5 hown X.1 X.2.1 0 rfl rfl 4 (by decide) (hts _ q3_55) (fun _ h9 => h9) (fl_get (by decide)) dX5_readElse_41 ?_
    refine lv_iload_n hx hb dX5_readElse_44 rfl (lv_at hl 1 rfl) ?_
    refine lv_bipush (v := (70 : Int32)) hx hb dX5_readElse_45 (by decide) ?_
    obtain ⟨h_8, hF⟩ := grd_some hF
    refine va_iast (D := D.1) (f := gIA gT 4) hx hb X.1 X.2.1 X.2.2.1 X.2.2.2.1 1 0 rfl rfl (inB_ok h_8) dX5_readElse_47 (fun H locs hP hD hS => ?_)
    have X : Hx D (tX5 yT ++ (tX0 yT_15)) A s H locs (wX5 hT aT yT (sIA gT 4 (upd (gIA gT 4) ((gI gT 8) - (1 : Int32)).toNatClampNeg (70 : Int32))) ++ (wX0 hT_15 aT_15 yT_15 q_6)) := Hx_set X (set_l (by rw [wG_len (m := 5) rfl]; decide) (wG_sIA (i := 0) (k := 4) ndX5 rfl rfl)) hP hD hS
    refine lv_aload_n hx hb dX5_readElse_48 rfl (lv_at hl 2 rfl) ?_
    refine va_get (D := D.1) (ci := 5) (v := .ref (aT 6)) (C := RX5) (T := TX5) (N := 18) hx hb hts wi_X5 hown X.1 X.2.1 0 rfl rfl 6 (by decide) (hts _ q3_57) (fun _ h9 => h9) (fl_get (by decide)) dX5_readElse_49 ?_
    refine lv_iload_n hx hb dX5_readElse_52 rfl (lv_at hl 1 rfl) ?_
    refine lv_iload_n hx hb dX5_readElse_53 rfl (lv_at hl 0 rfl) ?_
    obtain ⟨h_9, hF⟩ := grd_some hF
    refine va_iast (D := D.1) (f := gIA gT 6) hx hb X.1 X.2.1 X.2.2.1 X.2.2.2.1 3 2 rfl rfl (inB_ok h_9) dX5_readElse_54 (fun H locs hP hD hS => ?_)
    have X : Hx D (tX5 yT ++ (tX0 yT_15)) A s H locs (wX5 hT aT yT (sIA (sIA gT 4 (upd (gIA gT 4) ((gI gT 8) - (1 : Int32)).toNatClampNeg (70 : Int32))) 6 (upd (gIA gT 6) ((gI gT 8) - (1 : Int32)).toNatClampNeg q_3.1)) ++ (wX0 hT_15 aT_15 yT_15 q_6)) := Hx_set X (set_l (by rw [wG_len (m := 5) rfl]; decide) (wG_sIA (i := 2) (k := 6) ndX5 rfl rfl)) hP hD hS
    refine lv_iconst (v := (2 : Int32)) hx hb dX5_readElse_55 (by decide) ?_
    have hq := Option.some.inj hF
    subst hq
    exact rt_i C X dX5_readElse_56
  · replace hF := iF c hF
    refine lv_iconst (v := (0 : Int32)) hx hb dX5_readElse_11 (by decide) ?_
    have hq := Option.some.inj hF
    subst hq
    exact rt_i C X dX5_readElse_12

/-! ### X5_hasTwo -/
theorem dX5_hasTwo_0 : decode cX5_hasTwo 0 = .ok (.iload_n 0, 1) := by decide +kernel
theorem dX5_hasTwo_1 : decode cX5_hasTwo 1 = .ok (.bipush 23, 2) := by decide +kernel
theorem dX5_hasTwo_3 : decode cX5_hasTwo 3 = .ok (.if_icmp .eq 15, 3) := by decide +kernel
theorem dX5_hasTwo_6 : decode cX5_hasTwo 6 = .ok (.iload_n 0, 1) := by decide +kernel
theorem dX5_hasTwo_7 : decode cX5_hasTwo 7 = .ok (.bipush 24, 2) := by decide +kernel
theorem dX5_hasTwo_9 : decode cX5_hasTwo 9 = .ok (.if_icmp .eq 9, 3) := by decide +kernel
theorem dX5_hasTwo_12 : decode cX5_hasTwo 12 = .ok (.iload_n 0, 1) := by decide +kernel
theorem dX5_hasTwo_13 : decode cX5_hasTwo 13 = .ok (.bipush 25, 2) := by decide +kernel
theorem dX5_hasTwo_15 : decode cX5_hasTwo 15 = .ok (.if_icmp .ne 7, 3) := by decide +kernel
theorem dX5_hasTwo_18 : decode cX5_hasTwo 18 = .ok (.iconst 1, 1) := by decide +kernel
theorem dX5_hasTwo_19 : decode cX5_hasTwo 19 = .ok (.goto 4, 3) := by decide +kernel
theorem dX5_hasTwo_22 : decode cX5_hasTwo 22 = .ok (.iconst 0, 1) := by decide +kernel
theorem dX5_hasTwo_23 : decode cX5_hasTwo 23 = .ok (.ireturn, 1) := by decide +kernel
abbrev R_X5_hasTwo : Room := ({ frames := 0, cells := 0, slots := 0, locals := 0 } : Room)
def f_X5_hasTwo (x0 : Int32) : Option (Int32) :=
  if x0 = (23 : Int32) then (some (1 : Int32)) else (if x0 = (24 : Int32) then (some (1 : Int32)) else (if x0 = (25 : Int32) then (some (1 : Int32)) else (some (0 : Int32))))
set_option maxHeartbeats 4000000 in
set_option maxRecDepth 100000 in
theorem c_X5_hasTwo (l : Launch) (D : Dx) (x0 : Int32) (q : Int32) (hF : f_X5_hasTwo x0 = some q) (sz : Nat) : Met l yX5_hasTwo (ws_ yX5_hasTwo cX5_hasTwo 1 (some .boolean)) R_X5_hasTwo (PC D ([]) [.int x0] ([]) sz) (QI D (va_A ([]) sz) ([]) q) 0 0 (va_A ([]) sz) := by
  refine Met.ofW (cc := cX5_hasTwo) (maxL := 1) (ret := (some .boolean)) (by decide) rfl ?_
  intro p e s m args below meth c s₁ B hml hv
  obtain ⟨rfl, hsz, hP, hK, hD, hN⟩ := hv
  subst hsz
  have C : Cx p s m _ meth c cX5_hasTwo (some .boolean) 1 RX5 lw_all := Cx_of B hml
  have X := Hx_start hP hK hD hN
  obtain ⟨hx, hb, hr, -, hown, hts, hlk⟩ := id C
  generalize va_A ([]) s.heap.size = A at X ⊢
  have hl := lv_entry ([.int x0]) (n := 1) (Nat.le_of_ble_eq_true rfl)
  rw [lg_entry_eq]
  generalize (lg_sl ([.int x0]) ++ List.replicate (1 - (lg_sl ([.int x0])).length) Slot.unset).toArray = ls at hl ⊢
  have hl : lv_has ls 1 [(0, .int x0)] := hl
  unfold f_X5_hasTwo at hF
  refine lv_iload_n hx hb dX5_hasTwo_0 rfl (lv_at hl 0 rfl) ?_
  refine lv_bipush (v := (23 : Int32)) hx hb dX5_hasTwo_1 (by decide) ?_
  refine lv_icmp_eq (tgt := 18) hx hb dX5_hasTwo_3 (by decide) (fun c => ?_) (fun c => ?_)
  · replace hF := iT c hF
    refine lv_iconst (v := (1 : Int32)) hx hb dX5_hasTwo_18 (by decide) ?_
    refine lv_goto (tgt := 23) hx hb dX5_hasTwo_19 (by decide) ?_
    have hq := Option.some.inj hF
    subst hq
    exact rt_z (v := (1 : Int32)) C X (by decide) dX5_hasTwo_23
  · replace hF := iF c hF
    refine lv_iload_n hx hb dX5_hasTwo_6 rfl (lv_at hl 0 rfl) ?_
    refine lv_bipush (v := (24 : Int32)) hx hb dX5_hasTwo_7 (by decide) ?_
    refine lv_icmp_eq (tgt := 18) hx hb dX5_hasTwo_9 (by decide) (fun c => ?_) (fun c => ?_)
    · replace hF := iT c hF
      refine lv_iconst (v := (1 : Int32)) hx hb dX5_hasTwo_18 (by decide) ?_
      refine lv_goto (tgt := 23) hx hb dX5_hasTwo_19 (by decide) ?_
      have hq := Option.some.inj hF
      subst hq
      exact rt_z (v := (1 : Int32)) C X (by decide) dX5_hasTwo_23
    · replace hF := iF c hF
      refine lv_iload_n hx hb dX5_hasTwo_12 rfl (lv_at hl 0 rfl) ?_
      refine lv_bipush (v := (25 : Int32)) hx hb dX5_hasTwo_13 (by decide) ?_
      refine lv_icmp_ne (tgt := 22) hx hb dX5_hasTwo_15 (by decide) (fun c => ?_) (fun c => ?_)
      · replace hF := iF c hF
        refine lv_iconst (v := (0 : Int32)) hx hb dX5_hasTwo_22 (by decide) ?_
        have hq := Option.some.inj hF
        subst hq
        exact rt_z (v := (0 : Int32)) C X (by decide) dX5_hasTwo_23
      · replace hF := iT c hF
        refine lv_iconst (v := (1 : Int32)) hx hb dX5_hasTwo_18 (by decide) ?_
        refine lv_goto (tgt := 23) hx hb dX5_hasTwo_19 (by decide) ?_
        have hq := Option.some.inj hF
        subst hq
        exact rt_z (v := (1 : Int32)) C X (by decide) dX5_hasTwo_23

/-! ### X5_readComma -/
theorem dX5_readComma_0 : decode cX5_readComma 0 = .ok (.iload_n 1, 1) := by decide +kernel
theorem dX5_readComma_1 : decode cX5_readComma 1 = .ok (.invokestatic 309, 3) := by decide +kernel
theorem dX5_readComma_4 : decode cX5_readComma 4 = .ok (.ifCond .eq 17, 3) := by decide +kernel
theorem dX5_readComma_7 : decode cX5_readComma 7 = .ok (.aload_n 0, 1) := by decide +kernel
theorem dX5_readComma_8 : decode cX5_readComma 8 = .ok (.getfield 28, 3) := by decide +kernel
theorem dX5_readComma_11 : decode cX5_readComma 11 = .ok (.aload_n 0, 1) := by decide +kernel
theorem dX5_readComma_12 : decode cX5_readComma 12 = .ok (.getfield 31, 3) := by decide +kernel
theorem dX5_readComma_15 : decode cX5_readComma 15 = .ok (.iconst 1, 1) := by decide +kernel
theorem dX5_readComma_16 : decode cX5_readComma 16 = .ok (.isub, 1) := by decide +kernel
theorem dX5_readComma_17 : decode cX5_readComma 17 = .ok (.iaload, 1) := by decide +kernel
theorem dX5_readComma_18 : decode cX5_readComma 18 = .ok (.ifCond .eq 5, 3) := by decide +kernel
theorem dX5_readComma_21 : decode cX5_readComma 21 = .ok (.iconst 0, 1) := by decide +kernel
theorem dX5_readComma_22 : decode cX5_readComma 22 = .ok (.ireturn, 1) := by decide +kernel
theorem dX5_readComma_23 : decode cX5_readComma 23 = .ok (.aload_n 0, 1) := by decide +kernel
theorem dX5_readComma_24 : decode cX5_readComma 24 = .ok (.getfield 28, 3) := by decide +kernel
theorem dX5_readComma_27 : decode cX5_readComma 27 = .ok (.aload_n 0, 1) := by decide +kernel
theorem dX5_readComma_28 : decode cX5_readComma 28 = .ok (.getfield 31, 3) := by decide +kernel
theorem dX5_readComma_31 : decode cX5_readComma 31 = .ok (.iconst 1, 1) := by decide +kernel
theorem dX5_readComma_32 : decode cX5_readComma 32 = .ok (.isub, 1) := by decide +kernel
theorem dX5_readComma_33 : decode cX5_readComma 33 = .ok (.iconst 1, 1) := by decide +kernel
theorem dX5_readComma_34 : decode cX5_readComma 34 = .ok (.iastore, 1) := by decide +kernel
theorem dX5_readComma_35 : decode cX5_readComma 35 = .ok (.iconst 2, 1) := by decide +kernel
theorem dX5_readComma_36 : decode cX5_readComma 36 = .ok (.ireturn, 1) := by decide +kernel
abbrev R_X5_readComma : Room := ({ frames := 1, cells := 0, slots := 0, locals := 20 } : Room)
def f_X5_readComma (gT : Gs) (x0 : Int32) : Option (Int32 × Gs) :=
  bnd (f_X5_hasTwo x0) (fun q_1 => if q_1 = 0 then (some ((0 : Int32), gT)) else (grd (inB ((gI gT 8) - (1 : Int32)) 320) (if (gIA gT 7 ((gI gT 8) - (1 : Int32)).toNatClampNeg) = 0 then (grd (inB ((gI gT 8) - (1 : Int32)) 320) (some ((2 : Int32), (sIA gT 7 (upd (gIA gT 7) ((gI gT 8) - (1 : Int32)).toNatClampNeg (1 : Int32)))))) else (some ((0 : Int32), gT)))))
set_option maxHeartbeats 4000000 in
set_option maxRecDepth 100000 in
theorem c_X5_readComma (l : Launch) (D : Dx) (hT : Nat) (aT : Nat → Nat) (yT : Nat → ClassId) (gT : Gs) (x0 : Int32) (q : Int32 × Gs) (hF : f_X5_readComma gT x0 = some q) (sz : Nat) : Met l yX5_readComma (ws_ yX5_readComma cX5_readComma 2 (some .int)) R_X5_readComma (PC D (tX5 yT) [.ref hT, .int x0] (wX5 hT aT yT gT) sz) (QI D (va_A (wX5 hT aT yT gT) sz) (wX5 hT aT yT q.2) q.1) 0 0 (va_A (wX5 hT aT yT gT) sz) := by
  refine Met.ofW (cc := cX5_readComma) (maxL := 2) (ret := (some .int)) (by decide) rfl ?_
  intro p e s m args below meth c s₁ B hml hv
  obtain ⟨rfl, hsz, hP, hK, hD, hN⟩ := hv
  subst hsz
  have C : Cx p s m _ meth c cX5_readComma (some .int) 2 RX5 lw_all := Cx_of B hml
  have X := Hx_start hP hK hD hN
  obtain ⟨hx, hb, hr, -, hown, hts, hlk⟩ := id C
  generalize va_A (wX5 hT aT yT gT) s.heap.size = A at X ⊢
  have hl := lv_entry ([.ref hT, .int x0]) (n := 2) (Nat.le_of_ble_eq_true rfl)
  rw [lg_entry_eq]
  generalize (lg_sl ([.ref hT, .int x0]) ++ List.replicate (2 - (lg_sl ([.ref hT, .int x0])).length) Slot.unset).toArray = ls at hl ⊢
  have hl : lv_has ls 2 [(0, .ref hT), (1, .int x0)] := hl
  unfold f_X5_readComma at hF
  refine lv_iload_n hx hb dX5_readComma_0 rfl (lv_at hl 1 rfl) ?_
  obtain ⟨q_1, hc_2, hF⟩ := bnd_some hF
  refine cS_i (As := [.int x0]) (rest := []) C X (c_X5_hasTwo l D  x0 q_1 hc_2 _) (va_cwS 1 hts (good_S q4_137 q4_138 q1_10 q4_139) rfl rfl rfl (by decide +kernel) ⟨Nat.le_of_ble_eq_true rfl, Nat.le_of_ble_eq_true rfl⟩) (eK X) eP (eD (A := A)) (eF X) hl.1 rfl rfl (Nat.le_of_ble_eq_true rfl) dX5_readComma_1 ⟨Nat.le_of_ble_eq_true rfl, Nat.le_of_ble_eq_true rfl⟩ (fun t H1 locs1 ht hB hk hS => ?_)
  have X := Hx_after_none X hk hS
  clear hk hS ht hB
  generalize H1 = H at X ⊢
  generalize locs1 = locs at X ⊢
  refine lv_if_eq (tgt := 21) hx hb dX5_readComma_4 (by decide) (fun c => ?_) (fun c => ?_)
  · replace hF := iT c hF
    refine lv_iconst (v := (0 : Int32)) hx hb dX5_readComma_21 (by decide) ?_
    have hq := Option.some.inj hF
    subst hq
    exact rt_i C X dX5_readComma_22
  · replace hF := iF c hF
    refine lv_aload_n hx hb dX5_readComma_7 rfl (lv_at hl 0 rfl) ?_
    refine va_get (D := D.1) (ci := 5) (v := .ref (aT 7)) (C := RX5) (T := TX5) (N := 18) hx hb hts wi_X5 hown X.1 X.2.1 0 rfl rfl 7 (by decide) (hts _ q3_58) (fun _ h9 => h9) (fl_get (by decide)) dX5_readComma_8 ?_
    refine lv_aload_n hx hb dX5_readComma_11 rfl (lv_at hl 0 rfl) ?_
    refine va_get (D := D.1) (ci := 5) (v := .int (gI gT 8)) (C := RX5) (T := TX5) (N := 18) hx hb hts wi_X5 hown X.1 X.2.1 0 rfl rfl 8 (by decide) (hts _ q3_59) (fun _ h9 => h9) (fl_get (by decide)) dX5_readComma_12 ?_
    refine lv_iconst (v := (1 : Int32)) hx hb dX5_readComma_15 (by decide) ?_
    refine lv_isub hx hb dX5_readComma_16 ?_
    obtain ⟨h_3, hF⟩ := grd_some hF
    refine va_iald (D := D.1) (f := gIA gT 7) hx hb X.1 X.2.1 4 3 rfl rfl (inB_ok h_3) dX5_readComma_17 ?_
    refine lv_if_eq (tgt := 23) hx hb dX5_readComma_18 (by decide) (fun c => ?_) (fun c => ?_)
    · replace hF := iT c hF
      refine lv_aload_n hx hb dX5_readComma_23 rfl (lv_at hl 0 rfl) ?_
      refine va_get (D := D.1) (ci := 5) (v := .ref (aT 7)) (C := RX5) (T := TX5) (N := 18) hx hb hts wi_X5 hown X.1 X.2.1 0 rfl rfl 7 (by decide) (hts _ q3_58) (fun _ h9 => h9) (fl_get (by decide)) dX5_readComma_24 ?_
      refine lv_aload_n hx hb dX5_readComma_27 rfl (lv_at hl 0 rfl) ?_
      refine va_get (D := D.1) (ci := 5) (v := .int (gI gT 8)) (C := RX5) (T := TX5) (N := 18) hx hb hts wi_X5 hown X.1 X.2.1 0 rfl rfl 8 (by decide) (hts _ q3_59) (fun _ h9 => h9) (fl_get (by decide)) dX5_readComma_28 ?_
      refine lv_iconst (v := (1 : Int32)) hx hb dX5_readComma_31 (by decide) ?_
      refine lv_isub hx hb dX5_readComma_32 ?_
      refine lv_iconst (v := (1 : Int32)) hx hb dX5_readComma_33 (by decide) ?_
      obtain ⟨h_4, hF⟩ := grd_some hF
      refine va_iast (D := D.1) (f := gIA gT 7) hx hb X.1 X.2.1 X.2.2.1 X.2.2.2.1 4 3 rfl rfl (inB_ok h_4) dX5_readComma_34 (fun H locs hP hD hS => ?_)
      have X : Hx D (tX5 yT) A s H locs (wX5 hT aT yT (sIA gT 7 (upd (gIA gT 7) ((gI gT 8) - (1 : Int32)).toNatClampNeg (1 : Int32)))) := Hx_set X (wG_sIA (i := 3) (k := 7) ndX5 rfl rfl) hP hD hS
      refine lv_iconst (v := (2 : Int32)) hx hb dX5_readComma_35 (by decide) ?_
      have hq := Option.some.inj hF
      subst hq
      exact rt_i C X dX5_readComma_36
    · replace hF := iF c hF
      refine lv_iconst (v := (0 : Int32)) hx hb dX5_readComma_21 (by decide) ?_
      have hq := Option.some.inj hF
      subst hq
      exact rt_i C X dX5_readComma_22

/-! ### X5_closeRound -/
theorem dX5_closeRound_0 : decode cX5_closeRound 0 = .ok (.iload_n 1, 1) := by decide +kernel
theorem dX5_closeRound_1 : decode cX5_closeRound 1 = .ok (.bipush 19, 2) := by decide +kernel
theorem dX5_closeRound_3 : decode cX5_closeRound 3 = .ok (.if_icmp .lt 13, 3) := by decide +kernel
theorem dX5_closeRound_6 : decode cX5_closeRound 6 = .ok (.iload_n 1, 1) := by decide +kernel
theorem dX5_closeRound_7 : decode cX5_closeRound 7 = .ok (.bipush 25, 2) := by decide +kernel
theorem dX5_closeRound_9 : decode cX5_closeRound 9 = .ok (.if_icmp .gt 7, 3) := by decide +kernel
theorem dX5_closeRound_12 : decode cX5_closeRound 12 = .ok (.iconst 1, 1) := by decide +kernel
theorem dX5_closeRound_13 : decode cX5_closeRound 13 = .ok (.goto 4, 3) := by decide +kernel
theorem dX5_closeRound_16 : decode cX5_closeRound 16 = .ok (.iconst 0, 1) := by decide +kernel
theorem dX5_closeRound_17 : decode cX5_closeRound 17 = .ok (.istore_n 2, 1) := by decide +kernel
theorem dX5_closeRound_18 : decode cX5_closeRound 18 = .ok (.iload_n 1, 1) := by decide +kernel
theorem dX5_closeRound_19 : decode cX5_closeRound 19 = .ok (.bipush 45, 2) := by decide +kernel
theorem dX5_closeRound_21 : decode cX5_closeRound 21 = .ok (.if_icmp .eq 7, 3) := by decide +kernel
theorem dX5_closeRound_24 : decode cX5_closeRound 24 = .ok (.iload_n 2, 1) := by decide +kernel
theorem dX5_closeRound_25 : decode cX5_closeRound 25 = .ok (.ifCond .eq 24, 3) := by decide +kernel
theorem dX5_closeRound_28 : decode cX5_closeRound 28 = .ok (.iload_n 1, 1) := by decide +kernel
theorem dX5_closeRound_29 : decode cX5_closeRound 29 = .ok (.invokestatic 309, 3) := by decide +kernel
theorem dX5_closeRound_32 : decode cX5_closeRound 32 = .ok (.ifCond .eq 19, 3) := by decide +kernel
theorem dX5_closeRound_35 : decode cX5_closeRound 35 = .ok (.aload_n 0, 1) := by decide +kernel
theorem dX5_closeRound_36 : decode cX5_closeRound 36 = .ok (.getfield 28, 3) := by decide +kernel
theorem dX5_closeRound_39 : decode cX5_closeRound 39 = .ok (.aload_n 0, 1) := by decide +kernel
theorem dX5_closeRound_40 : decode cX5_closeRound 40 = .ok (.getfield 31, 3) := by decide +kernel
theorem dX5_closeRound_43 : decode cX5_closeRound 43 = .ok (.iconst 1, 1) := by decide +kernel
theorem dX5_closeRound_44 : decode cX5_closeRound 44 = .ok (.isub, 1) := by decide +kernel
theorem dX5_closeRound_45 : decode cX5_closeRound 45 = .ok (.iaload, 1) := by decide +kernel
theorem dX5_closeRound_46 : decode cX5_closeRound 46 = .ok (.ifCond .ne 5, 3) := by decide +kernel
theorem dX5_closeRound_49 : decode cX5_closeRound 49 = .ok (.iconst 0, 1) := by decide +kernel
theorem dX5_closeRound_50 : decode cX5_closeRound 50 = .ok (.ireturn, 1) := by decide +kernel
theorem dX5_closeRound_51 : decode cX5_closeRound 51 = .ok (.aload_n 0, 1) := by decide +kernel
theorem dX5_closeRound_52 : decode cX5_closeRound 52 = .ok (.dup, 1) := by decide +kernel
theorem dX5_closeRound_53 : decode cX5_closeRound 53 = .ok (.getfield 31, 3) := by decide +kernel
theorem dX5_closeRound_56 : decode cX5_closeRound 56 = .ok (.iconst 1, 1) := by decide +kernel
theorem dX5_closeRound_57 : decode cX5_closeRound 57 = .ok (.isub, 1) := by decide +kernel
theorem dX5_closeRound_58 : decode cX5_closeRound 58 = .ok (.putfield 31, 3) := by decide +kernel
theorem dX5_closeRound_61 : decode cX5_closeRound 61 = .ok (.aload_n 0, 1) := by decide +kernel
theorem dX5_closeRound_62 : decode cX5_closeRound 62 = .ok (.dup, 1) := by decide +kernel
theorem dX5_closeRound_63 : decode cX5_closeRound 63 = .ok (.getfield 35, 3) := by decide +kernel
theorem dX5_closeRound_66 : decode cX5_closeRound 66 = .ok (.iconst 1, 1) := by decide +kernel
theorem dX5_closeRound_67 : decode cX5_closeRound 67 = .ok (.isub, 1) := by decide +kernel
theorem dX5_closeRound_68 : decode cX5_closeRound 68 = .ok (.putfield 35, 3) := by decide +kernel
theorem dX5_closeRound_71 : decode cX5_closeRound 71 = .ok (.iload_n 2, 1) := by decide +kernel
theorem dX5_closeRound_72 : decode cX5_closeRound 72 = .ok (.ifCond .eq 21, 3) := by decide +kernel
theorem dX5_closeRound_75 : decode cX5_closeRound 75 = .ok (.aload_n 0, 1) := by decide +kernel
theorem dX5_closeRound_76 : decode cX5_closeRound 76 = .ok (.getfield 71, 3) := by decide +kernel
theorem dX5_closeRound_79 : decode cX5_closeRound 79 = .ok (.iload_n 1, 1) := by decide +kernel
theorem dX5_closeRound_80 : decode cX5_closeRound 80 = .ok (.aload_n 0, 1) := by decide +kernel
theorem dX5_closeRound_81 : decode cX5_closeRound 81 = .ok (.getfield 22, 3) := by decide +kernel
theorem dX5_closeRound_84 : decode cX5_closeRound 84 = .ok (.aload_n 0, 1) := by decide +kernel
theorem dX5_closeRound_85 : decode cX5_closeRound 85 = .ok (.getfield 31, 3) := by decide +kernel
theorem dX5_closeRound_88 : decode cX5_closeRound 88 = .ok (.iaload, 1) := by decide +kernel
theorem dX5_closeRound_89 : decode cX5_closeRound 89 = .ok (.invokevirtual 244, 3) := by decide +kernel
theorem dX5_closeRound_92 : decode cX5_closeRound 92 = .ok (.pop, 1) := by decide +kernel
theorem dX5_closeRound_93 : decode cX5_closeRound 93 = .ok (.iconst 3, 1) := by decide +kernel
theorem dX5_closeRound_94 : decode cX5_closeRound 94 = .ok (.ireturn, 1) := by decide +kernel
abbrev R_X5_closeRound : Room := ({ frames := 1, cells := 0, slots := 0, locals := 23 } : Room)
def b_X5_closeRound_51 (hT_15 : Nat) (gT : Gs) (gT_15 : Gs) (v1 : Int32) (v2 : Int32) : Option (Int32 × Gs × Gs) :=
  if v2 = 0 then (some ((3 : Int32), (sI (sI gT 8 ((gI gT 8) - (1 : Int32))) 9 ((gI gT 9) - (1 : Int32))), gT_15)) else (grd (rEq (gR gT 15) hT_15) (grd (inB ((gI gT 8) - (1 : Int32)) 320) (bnd (f_X0_add gT_15 v1 (gIA gT 5 ((gI gT 8) - (1 : Int32)).toNatClampNeg)) (fun q_5 => some ((3 : Int32), (sI (sI gT 8 ((gI gT 8) - (1 : Int32))) 9 ((gI gT 9) - (1 : Int32))), q_5.2)))))
def b_X5_closeRound_28 (hT_15 : Nat) (gT : Gs) (gT_15 : Gs) (v1 : Int32) (v2 : Int32) : Option (Int32 × Gs × Gs) :=
  bnd (f_X5_hasTwo v1) (fun q_1 => if q_1 = 0 then (b_X5_closeRound_51 hT_15 gT gT_15 v1 v2) else (grd (inB ((gI gT 8) - (1 : Int32)) 320) (if (gIA gT 7 ((gI gT 8) - (1 : Int32)).toNatClampNeg) = 0 then (some ((0 : Int32), gT, gT_15)) else (b_X5_closeRound_51 hT_15 gT gT_15 v1 v2))))
def b_X5_closeRound_17 (hT_15 : Nat) (gT : Gs) (gT_15 : Gs) (v1 : Int32) (s0 : Int32) : Option (Int32 × Gs × Gs) :=
  if v1 = (45 : Int32) then (b_X5_closeRound_28 hT_15 gT gT_15 v1 s0) else (if s0 = 0 then (some ((0 : Int32), gT, gT_15)) else (b_X5_closeRound_28 hT_15 gT gT_15 v1 s0))
def b_X5_closeRound_16 (hT_15 : Nat) (gT : Gs) (gT_15 : Gs) (v1 : Int32) : Option (Int32 × Gs × Gs) :=
  b_X5_closeRound_17 hT_15 gT gT_15 v1 (0 : Int32)
def f_X5_closeRound (hT_15 : Nat) (gT : Gs) (gT_15 : Gs) (x0 : Int32) : Option (Int32 × Gs × Gs) :=
  if x0 < (19 : Int32) then (b_X5_closeRound_16 hT_15 gT gT_15 x0) else (if (25 : Int32) < x0 then (b_X5_closeRound_16 hT_15 gT gT_15 x0) else (b_X5_closeRound_17 hT_15 gT gT_15 x0 (1 : Int32)))
def S_X5_closeRound_51 (l : Launch) (D : Dx) (hT : Nat) (aT : Nat → Nat) (yT : Nat → ClassId) (hT_15 : Nat) (aT_15 : Nat → Nat) (yT_15 : Nat → ClassId) (fn : Gs → Gs → Int32 → Int32 → Option (Int32 × Gs × Gs)) : Prop :=
  ∀ {p : Program} {e : Env} {s : State} {m : MethodId} {args : Array Value} {below : List Frame} {meth : Method} {c : Code} {H : Heap} {locs : List Loc} {A : Nat → Prop} {ls : Array Slot} {gT : Gs} {gT_15 : Gs} {v1 : Int32} {v2 : Int32} {q : Int32 × Gs × Gs}, Cx p s m args meth c cX5_closeRound (some .int) 3 RX5 lw_all → Hx D (tX5 yT ++ (tX0 yT_15)) A s H locs (wX5 hT aT yT gT ++ (wX0 hT_15 aT_15 yT_15 gT_15)) → lv_has ls 3 [(0, .ref hT), (1, .int v1), (2, .int v2)] → fn gT gT_15 v1 v2 = some q → W p l e R_X5_closeRound s m args below meth c H locs 0 0 (MQ below (QI D A (wX5 hT aT yT q.2.1 ++ (wX0 hT_15 aT_15 yT_15 q.2.2)) q.1) args s 0 0 A) (F0 m 51 ls [])
def S_X5_closeRound_28 (l : Launch) (D : Dx) (hT : Nat) (aT : Nat → Nat) (yT : Nat → ClassId) (hT_15 : Nat) (aT_15 : Nat → Nat) (yT_15 : Nat → ClassId) (fn : Gs → Gs → Int32 → Int32 → Option (Int32 × Gs × Gs)) : Prop :=
  ∀ {p : Program} {e : Env} {s : State} {m : MethodId} {args : Array Value} {below : List Frame} {meth : Method} {c : Code} {H : Heap} {locs : List Loc} {A : Nat → Prop} {ls : Array Slot} {gT : Gs} {gT_15 : Gs} {v1 : Int32} {v2 : Int32} {q : Int32 × Gs × Gs}, Cx p s m args meth c cX5_closeRound (some .int) 3 RX5 lw_all → Hx D (tX5 yT ++ (tX0 yT_15)) A s H locs (wX5 hT aT yT gT ++ (wX0 hT_15 aT_15 yT_15 gT_15)) → lv_has ls 3 [(0, .ref hT), (1, .int v1), (2, .int v2)] → fn gT gT_15 v1 v2 = some q → W p l e R_X5_closeRound s m args below meth c H locs 0 0 (MQ below (QI D A (wX5 hT aT yT q.2.1 ++ (wX0 hT_15 aT_15 yT_15 q.2.2)) q.1) args s 0 0 A) (F0 m 28 ls [])
def S_X5_closeRound_17 (l : Launch) (D : Dx) (hT : Nat) (aT : Nat → Nat) (yT : Nat → ClassId) (hT_15 : Nat) (aT_15 : Nat → Nat) (yT_15 : Nat → ClassId) (fn : Gs → Gs → Int32 → Int32 → Option (Int32 × Gs × Gs)) : Prop :=
  ∀ {p : Program} {e : Env} {s : State} {m : MethodId} {args : Array Value} {below : List Frame} {meth : Method} {c : Code} {H : Heap} {locs : List Loc} {A : Nat → Prop} {ls : Array Slot} {gT : Gs} {gT_15 : Gs} {v1 : Int32} {s0 : Int32} {q : Int32 × Gs × Gs}, Cx p s m args meth c cX5_closeRound (some .int) 3 RX5 lw_all → Hx D (tX5 yT ++ (tX0 yT_15)) A s H locs (wX5 hT aT yT gT ++ (wX0 hT_15 aT_15 yT_15 gT_15)) → lv_has ls 3 [(0, .ref hT), (1, .int v1)] → fn gT gT_15 v1 s0 = some q → W p l e R_X5_closeRound s m args below meth c H locs 0 0 (MQ below (QI D A (wX5 hT aT yT q.2.1 ++ (wX0 hT_15 aT_15 yT_15 q.2.2)) q.1) args s 0 0 A) (F0 m 17 ls [.int s0])
def S_X5_closeRound_16 (l : Launch) (D : Dx) (hT : Nat) (aT : Nat → Nat) (yT : Nat → ClassId) (hT_15 : Nat) (aT_15 : Nat → Nat) (yT_15 : Nat → ClassId) (fn : Gs → Gs → Int32 → Option (Int32 × Gs × Gs)) : Prop :=
  ∀ {p : Program} {e : Env} {s : State} {m : MethodId} {args : Array Value} {below : List Frame} {meth : Method} {c : Code} {H : Heap} {locs : List Loc} {A : Nat → Prop} {ls : Array Slot} {gT : Gs} {gT_15 : Gs} {v1 : Int32} {q : Int32 × Gs × Gs}, Cx p s m args meth c cX5_closeRound (some .int) 3 RX5 lw_all → Hx D (tX5 yT ++ (tX0 yT_15)) A s H locs (wX5 hT aT yT gT ++ (wX0 hT_15 aT_15 yT_15 gT_15)) → lv_has ls 3 [(0, .ref hT), (1, .int v1)] → fn gT gT_15 v1 = some q → W p l e R_X5_closeRound s m args below meth c H locs 0 0 (MQ below (QI D A (wX5 hT aT yT q.2.1 ++ (wX0 hT_15 aT_15 yT_15 q.2.2)) q.1) args s 0 0 A) (F0 m 16 ls [])
set_option maxHeartbeats 4000000 in
set_option maxRecDepth 100000 in
theorem k_X5_closeRound_51 (l : Launch) (D : Dx) (hT : Nat) (aT : Nat → Nat) (yT : Nat → ClassId) (hT_15 : Nat) (aT_15 : Nat → Nat) (yT_15 : Nat → ClassId) : S_X5_closeRound_51 l D hT aT yT hT_15 aT_15 yT_15 (b_X5_closeRound_51 hT_15) := by
  intro p e s m args below meth c H locs A ls gT gT_15 v1 v2 q C X hl hF
  obtain ⟨hx, hb, hr, hml, hown, hts, hlk⟩ := id C
  unfold b_X5_closeRound_51 at hF
  refine lv_aload_n hx hb dX5_closeRound_51 rfl (lv_at hl 0 rfl) ?_
  refine lv_dup hx hb dX5_closeRound_52 rfl ?_
  refine va_get (D := D.1) (ci := 5) (v := .int (gI gT 8)) (C := RX5) (T := TX5) (N := 18) hx hb hts wi_X5 hown X.1 X.2.1 0 rfl rfl 8 (by decide) (hts _ q3_59) (fun _ h9 => h9) (fl_get (by decide)) dX5_closeRound_53 ?_
  refine lv_iconst (v := (1 : Int32)) hx hb dX5_closeRound_56 (by decide) ?_
  refine lv_isub hx hb dX5_closeRound_57 ?_
  refine va_put (D := D.1) (ci := 5) (v := .int ((gI gT 8) - (1 : Int32))) (ty := .int) (C := RX5) (T := TX5) (N := 18) hx hb hts wi_X5 tyX5 tyX5_ok nmX5 hown X.1 X.2.1 X.2.2.1 X.2.2.2.1 0 rfl rfl 8 (by decide) (hts _ q3_59) (fun _ h9 => h9) rfl (by decide +kernel) rfl rfl (by rw [List.length_map, List.length_range]; decide) dX5_closeRound_58 (fun H locs hP hD hS => ?_)
  have X : Hx D (tX5 yT ++ (tX0 yT_15)) A s H locs (wX5 hT aT yT (sI gT 8 ((gI gT 8) - (1 : Int32))) ++ (wX0 hT_15 aT_15 yT_15 gT_15)) := Hx_set X (set_l (by rw [wG_len (m := 5) rfl]; decide) (wG_sI (k := 8) rfl)) hP hD hS
  refine lv_aload_n hx hb dX5_closeRound_61 rfl (lv_at hl 0 rfl) ?_
  refine lv_dup hx hb dX5_closeRound_62 rfl ?_
  refine va_get (D := D.1) (ci := 5) (v := .int (gI gT 9)) (C := RX5) (T := TX5) (N := 18) hx hb hts wi_X5 hown X.1 X.2.1 0 rfl rfl 9 (by decide) (hts _ q3_60) (fun _ h9 => h9) (fl_get (by decide)) dX5_closeRound_63 ?_
  refine lv_iconst (v := (1 : Int32)) hx hb dX5_closeRound_66 (by decide) ?_
  refine lv_isub hx hb dX5_closeRound_67 ?_
  refine va_put (D := D.1) (ci := 5) (v := .int ((gI gT 9) - (1 : Int32))) (ty := .int) (C := RX5) (T := TX5) (N := 18) hx hb hts wi_X5 tyX5 tyX5_ok nmX5 hown X.1 X.2.1 X.2.2.1 X.2.2.2.1 0 rfl rfl 9 (by decide) (hts _ q3_60) (fun _ h9 => h9) rfl (by decide +kernel) rfl rfl (by rw [List.length_map, List.length_range]; decide) dX5_closeRound_68 (fun H locs hP hD hS => ?_)
  have X : Hx D (tX5 yT ++ (tX0 yT_15)) A s H locs (wX5 hT aT yT (sI (sI gT 8 ((gI gT 8) - (1 : Int32))) 9 ((gI gT 9) - (1 : Int32))) ++ (wX0 hT_15 aT_15 yT_15 gT_15)) := Hx_set X (set_l (by rw [wG_len (m := 5) rfl]; decide) (wG_sI (k := 9) rfl)) hP hD hS
  refine lv_iload_n hx hb dX5_closeRound_71 rfl (lv_at hl 2 rfl) ?_
  refine lv_if_eq (tgt := 93) hx hb dX5_closeRound_72 (by decide) (fun c => ?_) (fun c => ?_)
  · replace hF := iT c hF
    refine lv_iconst (v := (3 : Int32)) hx hb dX5_closeRound_93 (by decide) ?_
    have hq := Option.some.inj hF
    subst hq
    exact rt_i C X dX5_closeRound_94
  · replace hF := iF c hF
    refine lv_aload_n hx hb dX5_closeRound_75 rfl (lv_at hl 0 rfl) ?_
    obtain ⟨h_3, hF⟩ := grd_some hF
    refine va_get (D := D.1) (ci := 5) (v := .ref hT_15) (C := RX5) (T := TX5) (N := 18) hx hb hts wi_X5 hown X.1 X.2.1 0 rfl rfl 15 (by decide) (hts _ q3_66) (fun _ h9 => h9) ((fl_get (by decide)).trans (rf_eq h_3)) dX5_closeRound_76 ?_
    refine lv_iload_n hx hb dX5_closeRound_79 rfl (lv_at hl 1 rfl) ?_
    refine lv_aload_n hx hb dX5_closeRound_80 rfl (lv_at hl 0 rfl) ?_
    refine va_get (D := D.1) (ci := 5) (v := .ref (aT 5)) (C := RX5) (T := TX5) (N := 18) hx hb hts wi_X5 hown X.1 X.2.1 0 rfl rfl 5 (by decide) (hts _ q3_56) (fun _ h9 => h9) (fl_get (by decide)) dX5_closeRound_81 ?_
    refine lv_aload_n hx hb dX5_closeRound_84 rfl (lv_at hl 0 rfl) ?_
    refine va_get (D := D.1) (ci := 5) (v := .int ((gI gT 8) - (1 : Int32))) (C := RX5) (T := TX5) (N := 18) hx hb hts wi_X5 hown X.1 X.2.1 0 rfl rfl 8 (by decide) (hts _ q3_59) (fun _ h9 => h9) (fl_get (by decide)) dX5_closeRound_85 ?_
    obtain ⟨h_4, hF⟩ := grd_some hF
    refine va_iald (D := D.1) (f := gIA gT 5) hx hb X.1 X.2.1 2 1 rfl rfl (inB_ok h_4) dX5_closeRound_88 ?_
    obtain ⟨q_5, hc_6, hF⟩ := bnd_some hF
    refine cV_i (As := [.int v1, .int (gIA gT 5 ((gI gT 8) - (1 : Int32)).toNatClampNeg)]) (rest := []) C X (c_X0_add l D hT_15 aT_15 yT_15 gT_15 v1 (gIA gT 5 ((gI gT 8) - (1 : Int32)).toNatClampNeg) q_5 hc_6 _) (cwV 2 hts (good_V q4_101 q4_102 q4_103 q1_8 q4_104) rfl rfl rfl (by decide +kernel) ⟨Nat.le_of_ble_eq_true rfl, Nat.le_of_ble_eq_true rfl⟩) (va_recv X.1 X.2.1 (ci := 0) (q0 := 5) rfl rfl) (X.1.sub (tys' := tX0 yT_15) [4, 5, 6, 7, 8, 9, 10, 11, 12, 13, 14, 15, 16, 17, 18] rfl) (X.2.1.sub (ws' := wX0 hT_15 aT_15 yT_15 gT_15) [5, 6, 7, 8, 9, 10, 11, 12, 13, 14, 15, 16, 17, 18, 19, 20] rfl) (X.2.2.1.sub (ws' := wX0 hT_15 aT_15 yT_15 gT_15) [5, 6, 7, 8, 9, 10, 11, 12, 13, 14, 15, 16, 17, 18, 19, 20] (by decide) rfl) (free_of (wC := wX0 hT_15 aT_15 yT_15 gT_15) (isC := [5, 6, 7, 8, 9, 10, 11, 12, 13, 14, 15, 16, 17, 18, 19, 20]) X rfl) hl.1 rfl rfl (Nat.le_of_ble_eq_true rfl) dX5_closeRound_89 ⟨Nat.le_of_ble_eq_true rfl, Nat.le_of_ble_eq_true rfl⟩ (fun t H1 locs1 ht hB hk hS => ?_)
    have X : Hx D (tX5 yT ++ (tX0 yT_15)) A s H1 locs1 (wX5 hT aT yT (sI (sI gT 8 ((gI gT 8) - (1 : Int32))) 9 ((gI gT 9) - (1 : Int32))) ++ (wX0 hT_15 aT_15 yT_15 q_5.2)) := Hx_after (isC := [5, 6, 7, 8, 9, 10, 11, 12, 13, 14, 15, 16, 17, 18, 19, 20]) (isR := [0, 1, 2, 3, 4]) (pm := [0, 1, 2, 3, 4, 5, 6, 7, 8, 9, 10, 11, 12, 13, 14, 15, 16, 17, 18, 19, 20]) (wr := wX5 hT aT yT (sI (sI gT 8 ((gI gT 8) - (1 : Int32))) 9 ((gI gT 9) - (1 : Int32)))) X ⟨rfl, rfl, by decide, by decide, rfl, by decide⟩ ht hB hk hS
    clear hk hS ht hB
    generalize H1 = H at X ⊢
    generalize locs1 = locs at X ⊢
    refine lv_pop hx hb dX5_closeRound_92 rfl ?_
    refine lv_iconst (v := (3 : Int32)) hx hb dX5_closeRound_93 (by decide) ?_
    have hq := Option.some.inj hF
    subst hq
    exact rt_i C X dX5_closeRound_94
set_option maxHeartbeats 4000000 in
set_option maxRecDepth 100000 in
theorem k_X5_closeRound_28 (l : Launch) (D : Dx) (hT : Nat) (aT : Nat → Nat) (yT : Nat → ClassId) (hT_15 : Nat) (aT_15 : Nat → Nat) (yT_15 : Nat → ClassId) : S_X5_closeRound_28 l D hT aT yT hT_15 aT_15 yT_15 (b_X5_closeRound_28 hT_15) := by
  intro p e s m args below meth c H locs A ls gT gT_15 v1 v2 q C X hl hF
  obtain ⟨hx, hb, hr, hml, hown, hts, hlk⟩ := id C
  unfold b_X5_closeRound_28 at hF
  refine lv_iload_n hx hb dX5_closeRound_28 rfl (lv_at hl 1 rfl) ?_
  obtain ⟨q_1, hc_2, hF⟩ := bnd_some hF
  refine cS_i (As := [.int v1]) (rest := []) C X (c_X5_hasTwo l D  v1 q_1 hc_2 _) (va_cwS 1 hts (good_S q4_137 q4_138 q1_10 q4_139) rfl rfl rfl (by decide +kernel) ⟨Nat.le_of_ble_eq_true rfl, Nat.le_of_ble_eq_true rfl⟩) (eK X) eP (eD (A := A)) (eF X) hl.1 rfl rfl (Nat.le_of_ble_eq_true rfl) dX5_closeRound_29 ⟨Nat.le_of_ble_eq_true rfl, Nat.le_of_ble_eq_true rfl⟩ (fun t H1 locs1 ht hB hk hS => ?_)
  have X := Hx_after_none X hk hS
  clear hk hS ht hB
  generalize H1 = H at X ⊢
  generalize locs1 = locs at X ⊢
  refine lv_if_eq (tgt := 51) hx hb dX5_closeRound_32 (by decide) (fun c => ?_) (fun c => ?_)
  · replace hF := iT c hF
    exact (k_X5_closeRound_51 l D hT aT yT hT_15 aT_15 yT_15) C X (lv_sub hl [0, 1, 2] rfl) hF
  · replace hF := iF c hF
    refine lv_aload_n hx hb dX5_closeRound_35 rfl (lv_at hl 0 rfl) ?_
    refine va_get (D := D.1) (ci := 5) (v := .ref (aT 7)) (C := RX5) (T := TX5) (N := 18) hx hb hts wi_X5 hown X.1 X.2.1 0 rfl rfl 7 (by decide) (hts _ q3_58) (fun _ h9 => h9) (fl_get (by decide)) dX5_closeRound_36 ?_
    refine lv_aload_n hx hb dX5_closeRound_39 rfl (lv_at hl 0 rfl) ?_
    refine va_get (D := D.1) (ci := 5) (v := .int (gI gT 8)) (C := RX5) (T := TX5) (N := 18) hx hb hts wi_X5 hown X.1 X.2.1 0 rfl rfl 8 (by decide) (hts _ q3_59) (fun _ h9 => h9) (fl_get (by decide)) dX5_closeRound_40 ?_
    refine lv_iconst (v := (1 : Int32)) hx hb dX5_closeRound_43 (by decide) ?_
    refine lv_isub hx hb dX5_closeRound_44 ?_
    obtain ⟨h_7, hF⟩ := grd_some hF
    refine va_iald (D := D.1) (f := gIA gT 7) hx hb X.1 X.2.1 4 3 rfl rfl (inB_ok h_7) dX5_closeRound_45 ?_
    refine lv_if_ne (tgt := 51) hx hb dX5_closeRound_46 (by decide) (fun c => ?_) (fun c => ?_)
    · replace hF := iF c hF
      exact (k_X5_closeRound_51 l D hT aT yT hT_15 aT_15 yT_15) C X (lv_sub hl [0, 1, 2] rfl) hF
    · replace hF := iT c hF
      refine lv_iconst (v := (0 : Int32)) hx hb dX5_closeRound_49 (by decide) ?_
      have hq := Option.some.inj hF
      subst hq
      exact rt_i C X dX5_closeRound_50
set_option maxHeartbeats 4000000 in
set_option maxRecDepth 100000 in
theorem k_X5_closeRound_17 (l : Launch) (D : Dx) (hT : Nat) (aT : Nat → Nat) (yT : Nat → ClassId) (hT_15 : Nat) (aT_15 : Nat → Nat) (yT_15 : Nat → ClassId) : S_X5_closeRound_17 l D hT aT yT hT_15 aT_15 yT_15 (b_X5_closeRound_17 hT_15) := by
  intro p e s m args below meth c H locs A ls gT gT_15 v1 s0 q C X hl hF
  obtain ⟨hx, hb, hr, hml, hown, hts, hlk⟩ := id C
  unfold b_X5_closeRound_17 at hF
  refine lv_istore_n (lv' := [(2, .int s0), (0, .ref hT), (1, .int v1)]) hx hb dX5_closeRound_17 rfl hl (by decide) rfl (fun ls hl => ?_)
  refine lv_iload_n hx hb dX5_closeRound_18 rfl (lv_at hl 2 rfl) ?_
  refine lv_bipush (v := (45 : Int32)) hx hb dX5_closeRound_19 (by decide) ?_
  refine lv_icmp_eq (tgt := 28) hx hb dX5_closeRound_21 (by decide) (fun c => ?_) (fun c => ?_)
  · replace hF := iT c hF
    exact (k_X5_closeRound_28 l D hT aT yT hT_15 aT_15 yT_15) C X (lv_sub hl [1, 2, 0] rfl) hF
  · replace hF := iF c hF
    refine lv_iload_n hx hb dX5_closeRound_24 rfl (lv_at hl 0 rfl) ?_
    refine lv_if_eq (tgt := 49) hx hb dX5_closeRound_25 (by decide) (fun c => ?_) (fun c => ?_)
    · replace hF := iT c hF
      refine lv_iconst (v := (0 : Int32)) hx hb dX5_closeRound_49 (by decide) ?_
      have hq := Option.some.inj hF
      subst hq
      exact rt_i C X dX5_closeRound_50
    · replace hF := iF c hF
      exact (k_X5_closeRound_28 l D hT aT yT hT_15 aT_15 yT_15) C X (lv_sub hl [1, 2, 0] rfl) hF
set_option maxHeartbeats 4000000 in
set_option maxRecDepth 100000 in
theorem k_X5_closeRound_16 (l : Launch) (D : Dx) (hT : Nat) (aT : Nat → Nat) (yT : Nat → ClassId) (hT_15 : Nat) (aT_15 : Nat → Nat) (yT_15 : Nat → ClassId) : S_X5_closeRound_16 l D hT aT yT hT_15 aT_15 yT_15 (b_X5_closeRound_16 hT_15) := by
  intro p e s m args below meth c H locs A ls gT gT_15 v1 q C X hl hF
  obtain ⟨hx, hb, hr, hml, hown, hts, hlk⟩ := id C
  unfold b_X5_closeRound_16 at hF
  refine lv_iconst (v := (0 : Int32)) hx hb dX5_closeRound_16 (by decide) ?_
  exact (k_X5_closeRound_17 l D hT aT yT hT_15 aT_15 yT_15) C X (lv_sub hl [0, 1] rfl) hF
set_option maxHeartbeats 4000000 in
set_option maxRecDepth 100000 in
theorem c_X5_closeRound (l : Launch) (D : Dx) (hT : Nat) (aT : Nat → Nat) (yT : Nat → ClassId) (hT_15 : Nat) (aT_15 : Nat → Nat) (yT_15 : Nat → ClassId) (gT : Gs) (gT_15 : Gs) (x0 : Int32) (q : Int32 × Gs × Gs) (hF : f_X5_closeRound hT_15 gT gT_15 x0 = some q) (sz : Nat) : Met l yX5_closeRound (ws_ yX5_closeRound cX5_closeRound 3 (some .int)) R_X5_closeRound (PC D (tX5 yT ++ (tX0 yT_15)) [.ref hT, .int x0] (wX5 hT aT yT gT ++ (wX0 hT_15 aT_15 yT_15 gT_15)) sz) (QI D (va_A (wX5 hT aT yT gT ++ (wX0 hT_15 aT_15 yT_15 gT_15)) sz) (wX5 hT aT yT q.2.1 ++ (wX0 hT_15 aT_15 yT_15 q.2.2)) q.1) 0 0 (va_A (wX5 hT aT yT gT ++ (wX0 hT_15 aT_15 yT_15 gT_15)) sz) := by
  refine Met.ofW (cc := cX5_closeRound) (maxL := 3) (ret := (some .int)) (by decide) rfl ?_
  intro p e s m args below meth c s₁ B hml hv
  obtain ⟨rfl, hsz, hP, hK, hD, hN⟩ := hv
  subst hsz
  have C : Cx p s m _ meth c cX5_closeRound (some .int) 3 RX5 lw_all := Cx_of B hml
  have X := Hx_start hP hK hD hN
  obtain ⟨hx, hb, hr, -, hown, hts, hlk⟩ := id C
  generalize va_A (wX5 hT aT yT gT ++ (wX0 hT_15 aT_15 yT_15 gT_15)) s.heap.size = A at X ⊢
  have hl := lv_entry ([.ref hT, .int x0]) (n := 3) (Nat.le_of_ble_eq_true rfl)
  rw [lg_entry_eq]
  generalize (lg_sl ([.ref hT, .int x0]) ++ List.replicate (3 - (lg_sl ([.ref hT, .int x0])).length) Slot.unset).toArray = ls at hl ⊢
  have hl : lv_has ls 3 [(0, .ref hT), (1, .int x0)] := hl
  unfold f_X5_closeRound at hF
  refine lv_iload_n hx hb dX5_closeRound_0 rfl (lv_at hl 1 rfl) ?_
  refine lv_bipush (v := (19 : Int32)) hx hb dX5_closeRound_1 (by decide) ?_
  refine lv_icmp_lt (tgt := 16) hx hb dX5_closeRound_3 (by decide) (fun c => ?_) (fun c => ?_)
  · replace hF := iT c hF
    exact (k_X5_closeRound_16 l D hT aT yT hT_15 aT_15 yT_15) C X (lv_sub hl [0, 1] rfl) hF
  · replace hF := iF c hF
    refine lv_iload_n hx hb dX5_closeRound_6 rfl (lv_at hl 1 rfl) ?_
    refine lv_bipush (v := (25 : Int32)) hx hb dX5_closeRound_7 (by decide) ?_
    refine lv_icmp_gt (tgt := 16) hx hb dX5_closeRound_9 (by decide) (fun c => ?_) (fun c => ?_)
    · replace hF := iT c hF
      exact (k_X5_closeRound_16 l D hT aT yT hT_15 aT_15 yT_15) C X (lv_sub hl [0, 1] rfl) hF
    · replace hF := iF c hF
      refine lv_iconst (v := (1 : Int32)) hx hb dX5_closeRound_12 (by decide) ?_
      refine lv_goto (tgt := 17) hx hb dX5_closeRound_13 (by decide) ?_
      exact (k_X5_closeRound_17 l D hT aT yT hT_15 aT_15 yT_15) C X (lv_sub hl [0, 1] rfl) hF

/-! ### X5_closeSquare -/
theorem dX5_closeSquare_0 : decode cX5_closeSquare 0 = .ok (.iload_n 1, 1) := by decide +kernel
theorem dX5_closeSquare_1 : decode cX5_closeSquare 1 = .ok (.bipush 64, 2) := by decide +kernel
theorem dX5_closeSquare_3 : decode cX5_closeSquare 3 = .ok (.if_icmp .eq 5, 3) := by decide +kernel
theorem dX5_closeSquare_6 : decode cX5_closeSquare 6 = .ok (.iconst 0, 1) := by decide +kernel
theorem dX5_closeSquare_7 : decode cX5_closeSquare 7 = .ok (.ireturn, 1) := by decide +kernel
theorem dX5_closeSquare_8 : decode cX5_closeSquare 8 = .ok (.aload_n 0, 1) := by decide +kernel
theorem dX5_closeSquare_9 : decode cX5_closeSquare 9 = .ok (.dup, 1) := by decide +kernel
theorem dX5_closeSquare_10 : decode cX5_closeSquare 10 = .ok (.getfield 31, 3) := by decide +kernel
theorem dX5_closeSquare_13 : decode cX5_closeSquare 13 = .ok (.iconst 1, 1) := by decide +kernel
theorem dX5_closeSquare_14 : decode cX5_closeSquare 14 = .ok (.isub, 1) := by decide +kernel
theorem dX5_closeSquare_15 : decode cX5_closeSquare 15 = .ok (.putfield 31, 3) := by decide +kernel
theorem dX5_closeSquare_18 : decode cX5_closeSquare 18 = .ok (.aload_n 0, 1) := by decide +kernel
theorem dX5_closeSquare_19 : decode cX5_closeSquare 19 = .ok (.dup, 1) := by decide +kernel
theorem dX5_closeSquare_20 : decode cX5_closeSquare 20 = .ok (.getfield 35, 3) := by decide +kernel
theorem dX5_closeSquare_23 : decode cX5_closeSquare 23 = .ok (.iconst 1, 1) := by decide +kernel
theorem dX5_closeSquare_24 : decode cX5_closeSquare 24 = .ok (.isub, 1) := by decide +kernel
theorem dX5_closeSquare_25 : decode cX5_closeSquare 25 = .ok (.putfield 35, 3) := by decide +kernel
theorem dX5_closeSquare_28 : decode cX5_closeSquare 28 = .ok (.aload_n 0, 1) := by decide +kernel
theorem dX5_closeSquare_29 : decode cX5_closeSquare 29 = .ok (.bipush 64, 2) := by decide +kernel
theorem dX5_closeSquare_31 : decode cX5_closeSquare 31 = .ok (.aload_n 0, 1) := by decide +kernel
theorem dX5_closeSquare_32 : decode cX5_closeSquare 32 = .ok (.getfield 22, 3) := by decide +kernel
theorem dX5_closeSquare_35 : decode cX5_closeSquare 35 = .ok (.aload_n 0, 1) := by decide +kernel
theorem dX5_closeSquare_36 : decode cX5_closeSquare 36 = .ok (.getfield 31, 3) := by decide +kernel
theorem dX5_closeSquare_39 : decode cX5_closeSquare 39 = .ok (.iaload, 1) := by decide +kernel
theorem dX5_closeSquare_40 : decode cX5_closeSquare 40 = .ok (.aload_n 0, 1) := by decide +kernel
theorem dX5_closeSquare_41 : decode cX5_closeSquare 41 = .ok (.getfield 25, 3) := by decide +kernel
theorem dX5_closeSquare_44 : decode cX5_closeSquare 44 = .ok (.aload_n 0, 1) := by decide +kernel
theorem dX5_closeSquare_45 : decode cX5_closeSquare 45 = .ok (.getfield 31, 3) := by decide +kernel
theorem dX5_closeSquare_48 : decode cX5_closeSquare 48 = .ok (.iaload, 1) := by decide +kernel
theorem dX5_closeSquare_49 : decode cX5_closeSquare 49 = .ok (.aload_n 0, 1) := by decide +kernel
theorem dX5_closeSquare_50 : decode cX5_closeSquare 50 = .ok (.getfield 28, 3) := by decide +kernel
theorem dX5_closeSquare_53 : decode cX5_closeSquare 53 = .ok (.aload_n 0, 1) := by decide +kernel
theorem dX5_closeSquare_54 : decode cX5_closeSquare 54 = .ok (.getfield 31, 3) := by decide +kernel
theorem dX5_closeSquare_57 : decode cX5_closeSquare 57 = .ok (.iaload, 1) := by decide +kernel
theorem dX5_closeSquare_58 : decode cX5_closeSquare 58 = .ok (.invokevirtual 273, 3) := by decide +kernel
theorem dX5_closeSquare_61 : decode cX5_closeSquare 61 = .ok (.iconst 3, 1) := by decide +kernel
theorem dX5_closeSquare_62 : decode cX5_closeSquare 62 = .ok (.ireturn, 1) := by decide +kernel
abbrev R_X5_closeSquare : Room := ({ frames := 2, cells := 0, slots := 0, locals := 48 } : Room)
def f_X5_closeSquare (hT_15 : Nat) (gT : Gs) (gT_15 : Gs) (x0 : Int32) : Option (Int32 × Gs × Gs) :=
  if x0 = (64 : Int32) then (grd (inB ((gI gT 8) - (1 : Int32)) 320) (grd (inB ((gI gT 8) - (1 : Int32)) 320) (grd (inB ((gI gT 8) - (1 : Int32)) 320) (bnd (f_X5_addNamed hT_15 (sI (sI gT 8 ((gI gT 8) - (1 : Int32))) 9 ((gI gT 9) - (1 : Int32))) gT_15 (64 : Int32) (gIA gT 5 ((gI gT 8) - (1 : Int32)).toNatClampNeg) (gIA gT 6 ((gI gT 8) - (1 : Int32)).toNatClampNeg) (gIA gT 7 ((gI gT 8) - (1 : Int32)).toNatClampNeg)) (fun q_4 => some ((3 : Int32), (sI (sI gT 8 ((gI gT 8) - (1 : Int32))) 9 ((gI gT 9) - (1 : Int32))), q_4)))))) else (some ((0 : Int32), gT, gT_15))
set_option maxHeartbeats 4000000 in
set_option maxRecDepth 100000 in
theorem c_X5_closeSquare (l : Launch) (D : Dx) (hT : Nat) (aT : Nat → Nat) (yT : Nat → ClassId) (hT_15 : Nat) (aT_15 : Nat → Nat) (yT_15 : Nat → ClassId) (gT : Gs) (gT_15 : Gs) (x0 : Int32) (q : Int32 × Gs × Gs) (hF : f_X5_closeSquare hT_15 gT gT_15 x0 = some q) (sz : Nat) : Met l yX5_closeSquare (ws_ yX5_closeSquare cX5_closeSquare 2 (some .int)) R_X5_closeSquare (PC D (tX5 yT ++ (tX0 yT_15)) [.ref hT, .int x0] (wX5 hT aT yT gT ++ (wX0 hT_15 aT_15 yT_15 gT_15)) sz) (QI D (va_A (wX5 hT aT yT gT ++ (wX0 hT_15 aT_15 yT_15 gT_15)) sz) (wX5 hT aT yT q.2.1 ++ (wX0 hT_15 aT_15 yT_15 q.2.2)) q.1) 0 0 (va_A (wX5 hT aT yT gT ++ (wX0 hT_15 aT_15 yT_15 gT_15)) sz) := by
  refine Met.ofW (cc := cX5_closeSquare) (maxL := 2) (ret := (some .int)) (by decide) rfl ?_
  intro p e s m args below meth c s₁ B hml hv
  obtain ⟨rfl, hsz, hP, hK, hD, hN⟩ := hv
  subst hsz
  have C : Cx p s m _ meth c cX5_closeSquare (some .int) 2 RX5 lw_all := Cx_of B hml
  have X := Hx_start hP hK hD hN
  obtain ⟨hx, hb, hr, -, hown, hts, hlk⟩ := id C
  generalize va_A (wX5 hT aT yT gT ++ (wX0 hT_15 aT_15 yT_15 gT_15)) s.heap.size = A at X ⊢
  have hl := lv_entry ([.ref hT, .int x0]) (n := 2) (Nat.le_of_ble_eq_true rfl)
  rw [lg_entry_eq]
  generalize (lg_sl ([.ref hT, .int x0]) ++ List.replicate (2 - (lg_sl ([.ref hT, .int x0])).length) Slot.unset).toArray = ls at hl ⊢
  have hl : lv_has ls 2 [(0, .ref hT), (1, .int x0)] := hl
  unfold f_X5_closeSquare at hF
  refine lv_iload_n hx hb dX5_closeSquare_0 rfl (lv_at hl 1 rfl) ?_
  refine lv_bipush (v := (64 : Int32)) hx hb dX5_closeSquare_1 (by decide) ?_
  refine lv_icmp_eq (tgt := 8) hx hb dX5_closeSquare_3 (by decide) (fun c => ?_) (fun c => ?_)
  · replace hF := iT c hF
    refine lv_aload_n hx hb dX5_closeSquare_8 rfl (lv_at hl 0 rfl) ?_
    refine lv_dup hx hb dX5_closeSquare_9 rfl ?_
    refine va_get (D := D.1) (ci := 5) (v := .int (gI gT 8)) (C := RX5) (T := TX5) (N := 18) hx hb hts wi_X5 hown X.1 X.2.1 0 rfl rfl 8 (by decide) (hts _ q3_59) (fun _ h9 => h9) (fl_get (by decide)) dX5_closeSquare_10 ?_
    refine lv_iconst (v := (1 : Int32)) hx hb dX5_closeSquare_13 (by decide) ?_
    refine lv_isub hx hb dX5_closeSquare_14 ?_
    refine va_put (D := D.1) (ci := 5) (v := .int ((gI gT 8) - (1 : Int32))) (ty := .int) (C := RX5) (T := TX5) (N := 18) hx hb hts wi_X5 tyX5 tyX5_ok nmX5 hown X.1 X.2.1 X.2.2.1 X.2.2.2.1 0 rfl rfl 8 (by decide) (hts _ q3_59) (fun _ h9 => h9) rfl (by decide +kernel) rfl rfl (by rw [List.length_map, List.length_range]; decide) dX5_closeSquare_15 (fun H locs hP hD hS => ?_)
    have X : Hx D (tX5 yT ++ (tX0 yT_15)) A s H locs (wX5 hT aT yT (sI gT 8 ((gI gT 8) - (1 : Int32))) ++ (wX0 hT_15 aT_15 yT_15 gT_15)) := Hx_set X (set_l (by rw [wG_len (m := 5) rfl]; decide) (wG_sI (k := 8) rfl)) hP hD hS
    refine lv_aload_n hx hb dX5_closeSquare_18 rfl (lv_at hl 0 rfl) ?_
    refine lv_dup hx hb dX5_closeSquare_19 rfl ?_
    refine va_get (D := D.1) (ci := 5) (v := .int (gI gT 9)) (C := RX5) (T := TX5) (N := 18) hx hb hts wi_X5 hown X.1 X.2.1 0 rfl rfl 9 (by decide) (hts _ q3_60) (fun _ h9 => h9) (fl_get (by decide)) dX5_closeSquare_20 ?_
    refine lv_iconst (v := (1 : Int32)) hx hb dX5_closeSquare_23 (by decide) ?_
    refine lv_isub hx hb dX5_closeSquare_24 ?_
    refine va_put (D := D.1) (ci := 5) (v := .int ((gI gT 9) - (1 : Int32))) (ty := .int) (C := RX5) (T := TX5) (N := 18) hx hb hts wi_X5 tyX5 tyX5_ok nmX5 hown X.1 X.2.1 X.2.2.1 X.2.2.2.1 0 rfl rfl 9 (by decide) (hts _ q3_60) (fun _ h9 => h9) rfl (by decide +kernel) rfl rfl (by rw [List.length_map, List.length_range]; decide) dX5_closeSquare_25 (fun H locs hP hD hS => ?_)
    have X : Hx D (tX5 yT ++ (tX0 yT_15)) A s H locs (wX5 hT aT yT (sI (sI gT 8 ((gI gT 8) - (1 : Int32))) 9 ((gI gT 9) - (1 : Int32))) ++ (wX0 hT_15 aT_15 yT_15 gT_15)) := Hx_set X (set_l (by rw [wG_len (m := 5) rfl]; decide) (wG_sI (k := 9) rfl)) hP hD hS
    refine lv_aload_n hx hb dX5_closeSquare_28 rfl (lv_at hl 0 rfl) ?_
    refine lv_bipush (v := (64 : Int32)) hx hb dX5_closeSquare_29 (by decide) ?_
    refine lv_aload_n hx hb dX5_closeSquare_31 rfl (lv_at hl 0 rfl) ?_
    refine va_get (D := D.1) (ci := 5) (v := .ref (aT 5)) (C := RX5) (T := TX5) (N := 18) hx hb hts wi_X5 hown X.1 X.2.1 0 rfl rfl 5 (by decide) (hts _ q3_56) (fun _ h9 => h9) (fl_get (by decide)) dX5_closeSquare_32 ?_
    refine lv_aload_n hx hb dX5_closeSquare_35 rfl (lv_at hl 0 rfl) ?_
    refine va_get (D := D.1) (ci := 5) (v := .int ((gI gT 8) - (1 : Int32))) (C := RX5) (T := TX5) (N := 18) hx hb hts wi_X5 hown X.1 X.2.1 0 rfl rfl 8 (by decide) (hts _ q3_59) (fun _ h9 => h9) (fl_get (by decide)) dX5_closeSquare_36 ?_
    obtain ⟨h_1, hF⟩ := grd_some hF
    refine va_iald (D := D.1) (f := gIA gT 5) hx hb X.1 X.2.1 2 1 rfl rfl (inB_ok h_1) dX5_closeSquare_39 ?_
    refine lv_aload_n hx hb dX5_closeSquare_40 rfl (lv_at hl 0 rfl) ?_
    refine va_get (D := D.1) (ci := 5) (v := .ref (aT 6)) (C := RX5) (T := TX5) (N := 18) hx hb hts wi_X5 hown X.1 X.2.1 0 rfl rfl 6 (by decide) (hts _ q3_57) (fun _ h9 => h9) (fl_get (by decide)) dX5_closeSquare_41 ?_
    refine lv_aload_n hx hb dX5_closeSquare_44 rfl (lv_at hl 0 rfl) ?_
    refine va_get (D := D.1) (ci := 5) (v := .int ((gI gT 8) - (1 : Int32))) (C := RX5) (T := TX5) (N := 18) hx hb hts wi_X5 hown X.1 X.2.1 0 rfl rfl 8 (by decide) (hts _ q3_59) (fun _ h9 => h9) (fl_get (by decide)) dX5_closeSquare_45 ?_
    obtain ⟨h_2, hF⟩ := grd_some hF
    refine va_iald (D := D.1) (f := gIA gT 6) hx hb X.1 X.2.1 3 2 rfl rfl (inB_ok h_2) dX5_closeSquare_48 ?_
    refine lv_aload_n hx hb dX5_closeSquare_49 rfl (lv_at hl 0 rfl) ?_
    refine va_get (D := D.1) (ci := 5) (v := .ref (aT 7)) (C := RX5) (T := TX5) (N := 18) hx hb hts wi_X5 hown X.1 X.2.1 0 rfl rfl 7 (by decide) (hts _ q3_58) (fun _ h9 => h9) (fl_get (by decide)) dX5_closeSquare_50 ?_
    refine lv_aload_n hx hb dX5_closeSquare_53 rfl (lv_at hl 0 rfl) ?_
    refine va_get (D := D.1) (ci := 5) (v := .int ((gI gT 8) - (1 : Int32))) (C := RX5) (T := TX5) (N := 18) hx hb hts wi_X5 hown X.1 X.2.1 0 rfl rfl 8 (by decide) (hts _ q3_59) (fun _ h9 => h9) (fl_get (by decide)) dX5_closeSquare_54 ?_
    obtain ⟨h_3, hF⟩ := grd_some hF
    refine va_iald (D := D.1) (f := gIA gT 7) hx hb X.1 X.2.1 4 3 rfl rfl (inB_ok h_3) dX5_closeSquare_57 ?_
    obtain ⟨q_4, hc_5, hF⟩ := bnd_some hF
    refine cV_v (As := [.int (64 : Int32), .int (gIA gT 5 ((gI gT 8) - (1 : Int32)).toNatClampNeg), .int (gIA gT 6 ((gI gT 8) - (1 : Int32)).toNatClampNeg), .int (gIA gT 7 ((gI gT 8) - (1 : Int32)).toNatClampNeg)]) (rest := []) C X (c_X5_addNamed l D hT aT yT hT_15 aT_15 yT_15 (sI (sI gT 8 ((gI gT 8) - (1 : Int32))) 9 ((gI gT 9) - (1 : Int32))) gT_15 (64 : Int32) (gIA gT 5 ((gI gT 8) - (1 : Int32)).toNatClampNeg) (gIA gT 6 ((gI gT 8) - (1 : Int32)).toNatClampNeg) (gIA gT 7 ((gI gT 8) - (1 : Int32)).toNatClampNeg) q_4 hc_5 _) (cwV 4 hts (good_V q4_148 q4_150 q0_29 q1_10 q4_151) rfl rfl rfl (by decide +kernel) ⟨Nat.le_of_ble_eq_true rfl, Nat.le_of_ble_eq_true rfl⟩) (va_recv X.1 X.2.1 (ci := 5) (q0 := 0) rfl rfl) X.1 X.2.1 X.2.2.1 (free_all X) hl.1 rfl rfl (Nat.le_of_ble_eq_true rfl) dX5_closeSquare_58 ⟨Nat.le_of_ble_eq_true rfl, Nat.le_of_ble_eq_true rfl⟩ (fun t H1 locs1 ht hB hk hS => ?_)
    have X : Hx D (tX5 yT ++ (tX0 yT_15)) A s H1 locs1 (wX5 hT aT yT (sI (sI gT 8 ((gI gT 8) - (1 : Int32))) 9 ((gI gT 9) - (1 : Int32))) ++ (wX0 hT_15 aT_15 yT_15 q_4)) := Hx_after_all X ht hB hS
    clear hk hS ht hB
    generalize H1 = H at X ⊢
    generalize locs1 = locs at X ⊢
    refine lv_iconst (v := (3 : Int32)) hx hb dX5_closeSquare_61 (by decide) ?_
    have hq := Option.some.inj hF
    subst hq
    exact rt_i C X dX5_closeSquare_62
  · replace hF := iF c hF
    refine lv_iconst (v := (0 : Int32)) hx hb dX5_closeSquare_6 (by decide) ?_
    have hq := Option.some.inj hF
    subst hq
    exact rt_i C X dX5_closeSquare_7

/-! ### X5_readSign -/
theorem dX5_readSign_0 : decode cX5_readSign 0 = .ok (.aload_n 0, 1) := by decide +kernel
theorem dX5_readSign_1 : decode cX5_readSign 1 = .ok (.getfield 77, 3) := by decide +kernel
theorem dX5_readSign_4 : decode cX5_readSign 4 = .ok (.getfield 100, 3) := by decide +kernel
theorem dX5_readSign_7 : decode cX5_readSign 7 = .ok (.istore_n 1, 1) := by decide +kernel
theorem dX5_readSign_8 : decode cX5_readSign 8 = .ok (.iload_n 1, 1) := by decide +kernel
theorem dX5_readSign_9 : decode cX5_readSign 9 = .ok (.invokestatic 277, 3) := by decide +kernel
theorem dX5_readSign_12 : decode cX5_readSign 12 = .ok (.istore_n 2, 1) := by decide +kernel
theorem dX5_readSign_13 : decode cX5_readSign 13 = .ok (.iload_n 2, 1) := by decide +kernel
theorem dX5_readSign_14 : decode cX5_readSign 14 = .ok (.ifCond .le 16, 3) := by decide +kernel
theorem dX5_readSign_17 : decode cX5_readSign 17 = .ok (.aload_n 0, 1) := by decide +kernel
theorem dX5_readSign_18 : decode cX5_readSign 18 = .ok (.iload_n 2, 1) := by decide +kernel
theorem dX5_readSign_19 : decode cX5_readSign 19 = .ok (.iconst 0, 1) := by decide +kernel
theorem dX5_readSign_20 : decode cX5_readSign 20 = .ok (.invokevirtual 280, 3) := by decide +kernel
theorem dX5_readSign_23 : decode cX5_readSign 23 = .ok (.aload_n 0, 1) := by decide +kernel
theorem dX5_readSign_24 : decode cX5_readSign 24 = .ok (.iload_n 1, 1) := by decide +kernel
theorem dX5_readSign_25 : decode cX5_readSign 25 = .ok (.iload_n 2, 1) := by decide +kernel
theorem dX5_readSign_26 : decode cX5_readSign 26 = .ok (.invokevirtual 284, 3) := by decide +kernel
theorem dX5_readSign_29 : decode cX5_readSign 29 = .ok (.ireturn, 1) := by decide +kernel
theorem dX5_readSign_30 : decode cX5_readSign 30 = .ok (.aload_n 0, 1) := by decide +kernel
theorem dX5_readSign_31 : decode cX5_readSign 31 = .ok (.iconst 0, 1) := by decide +kernel
theorem dX5_readSign_32 : decode cX5_readSign 32 = .ok (.iload_n 1, 1) := by decide +kernel
theorem dX5_readSign_33 : decode cX5_readSign 33 = .ok (.bipush 44, 2) := by decide +kernel
theorem dX5_readSign_35 : decode cX5_readSign 35 = .ok (.if_icmp .eq 7, 3) := by decide +kernel
theorem dX5_readSign_38 : decode cX5_readSign 38 = .ok (.iconst 1, 1) := by decide +kernel
theorem dX5_readSign_39 : decode cX5_readSign 39 = .ok (.goto 4, 3) := by decide +kernel
theorem dX5_readSign_42 : decode cX5_readSign 42 = .ok (.iconst 0, 1) := by decide +kernel
theorem dX5_readSign_43 : decode cX5_readSign 43 = .ok (.invokevirtual 280, 3) := by decide +kernel
theorem dX5_readSign_46 : decode cX5_readSign 46 = .ok (.iload_n 1, 1) := by decide +kernel
theorem dX5_readSign_47 : decode cX5_readSign 47 = .ok (.bipush 44, 2) := by decide +kernel
theorem dX5_readSign_49 : decode cX5_readSign 49 = .ok (.if_icmp .ne 8, 3) := by decide +kernel
theorem dX5_readSign_52 : decode cX5_readSign 52 = .ok (.aload_n 0, 1) := by decide +kernel
theorem dX5_readSign_53 : decode cX5_readSign 53 = .ok (.invokevirtual 287, 3) := by decide +kernel
theorem dX5_readSign_56 : decode cX5_readSign 56 = .ok (.ireturn, 1) := by decide +kernel
theorem dX5_readSign_57 : decode cX5_readSign 57 = .ok (.aload_n 0, 1) := by decide +kernel
theorem dX5_readSign_58 : decode cX5_readSign 58 = .ok (.getfield 31, 3) := by decide +kernel
theorem dX5_readSign_61 : decode cX5_readSign 61 = .ok (.ifCond .ne 5, 3) := by decide +kernel
theorem dX5_readSign_64 : decode cX5_readSign 64 = .ok (.iconst 1, 1) := by decide +kernel
theorem dX5_readSign_65 : decode cX5_readSign 65 = .ok (.ireturn, 1) := by decide +kernel
theorem dX5_readSign_66 : decode cX5_readSign 66 = .ok (.aload_n 0, 1) := by decide +kernel
theorem dX5_readSign_67 : decode cX5_readSign 67 = .ok (.getfield 18, 3) := by decide +kernel
theorem dX5_readSign_70 : decode cX5_readSign 70 = .ok (.aload_n 0, 1) := by decide +kernel
theorem dX5_readSign_71 : decode cX5_readSign 71 = .ok (.getfield 31, 3) := by decide +kernel
theorem dX5_readSign_74 : decode cX5_readSign 74 = .ok (.iconst 1, 1) := by decide +kernel
theorem dX5_readSign_75 : decode cX5_readSign 75 = .ok (.isub, 1) := by decide +kernel
theorem dX5_readSign_76 : decode cX5_readSign 76 = .ok (.iaload, 1) := by decide +kernel
theorem dX5_readSign_77 : decode cX5_readSign 77 = .ok (.istore_n 3, 1) := by decide +kernel
theorem dX5_readSign_78 : decode cX5_readSign 78 = .ok (.iload_n 1, 1) := by decide +kernel
theorem dX5_readSign_79 : decode cX5_readSign 79 = .ok (.tableswitch 82 40 48 #[49, 82, 64, 82, 82, 82, 70, 82, 76], 49) := by decide +kernel
theorem dX5_readSign_128 : decode cX5_readSign 128 = .ok (.iload_n 3, 1) := by decide +kernel
theorem dX5_readSign_129 : decode cX5_readSign 129 = .ok (.bipush 44, 2) := by decide +kernel
theorem dX5_readSign_131 : decode cX5_readSign 131 = .ok (.if_icmp .ne 10, 3) := by decide +kernel
theorem dX5_readSign_134 : decode cX5_readSign 134 = .ok (.aload_n 0, 1) := by decide +kernel
theorem dX5_readSign_135 : decode cX5_readSign 135 = .ok (.invokevirtual 290, 3) := by decide +kernel
theorem dX5_readSign_138 : decode cX5_readSign 138 = .ok (.goto 4, 3) := by decide +kernel
theorem dX5_readSign_141 : decode cX5_readSign 141 = .ok (.iconst 0, 1) := by decide +kernel
theorem dX5_readSign_142 : decode cX5_readSign 142 = .ok (.ireturn, 1) := by decide +kernel
theorem dX5_readSign_143 : decode cX5_readSign 143 = .ok (.aload_n 0, 1) := by decide +kernel
theorem dX5_readSign_144 : decode cX5_readSign 144 = .ok (.iload_n 3, 1) := by decide +kernel
theorem dX5_readSign_145 : decode cX5_readSign 145 = .ok (.invokevirtual 293, 3) := by decide +kernel
theorem dX5_readSign_148 : decode cX5_readSign 148 = .ok (.ireturn, 1) := by decide +kernel
theorem dX5_readSign_149 : decode cX5_readSign 149 = .ok (.aload_n 0, 1) := by decide +kernel
theorem dX5_readSign_150 : decode cX5_readSign 150 = .ok (.iload_n 3, 1) := by decide +kernel
theorem dX5_readSign_151 : decode cX5_readSign 151 = .ok (.invokevirtual 296, 3) := by decide +kernel
theorem dX5_readSign_154 : decode cX5_readSign 154 = .ok (.ireturn, 1) := by decide +kernel
theorem dX5_readSign_155 : decode cX5_readSign 155 = .ok (.aload_n 0, 1) := by decide +kernel
theorem dX5_readSign_156 : decode cX5_readSign 156 = .ok (.iload_n 3, 1) := by decide +kernel
theorem dX5_readSign_157 : decode cX5_readSign 157 = .ok (.invokevirtual 299, 3) := by decide +kernel
theorem dX5_readSign_160 : decode cX5_readSign 160 = .ok (.ireturn, 1) := by decide +kernel
theorem dX5_readSign_161 : decode cX5_readSign 161 = .ok (.iconst 0, 1) := by decide +kernel
theorem dX5_readSign_162 : decode cX5_readSign 162 = .ok (.ireturn, 1) := by decide +kernel
abbrev R_X5_readSign : Room := ({ frames := 3, cells := 0, slots := 0, locals := 75 } : Room)
def b_X5_readSign_43 (n : Nat) (hT_15 : Nat) (gT : Gs) (gT_1 : Gs) (gT_15 : Gs) (v1 : Int32) (s0 : Int32) (s1 : Int32) : Option (Int32 × Gs × Gs) :=
  bnd (f_X5_closeParts n hT_15 gT gT_15 s1 s0) (fun q_3 => if v1 = (44 : Int32) then (bnd (f_X5_readQuestion hT_15 q_3.1 gT_1 q_3.2) (fun q_14 => some (q_14.1, q_14.2.1, q_14.2.2))) else (if (gI q_3.1 8) = 0 then (some ((1 : Int32), q_3.1, q_3.2)) else (grd (inB ((gI q_3.1 8) - (1 : Int32)) 320) (if v1 = (40 : Int32) then (if (gIA q_3.1 4 ((gI q_3.1 8) - (1 : Int32)).toNatClampNeg) = (44 : Int32) then (bnd (f_X5_readElse hT_15 q_3.1 q_3.2) (fun q_6 => some (q_6.1, q_6.2.1, q_6.2.2))) else (some ((0 : Int32), q_3.1, q_3.2))) else (if v1 = (41 : Int32) then (some ((0 : Int32), q_3.1, q_3.2)) else (if v1 = (42 : Int32) then (bnd (f_X5_readComma q_3.1 (gIA q_3.1 4 ((gI q_3.1 8) - (1 : Int32)).toNatClampNeg)) (fun q_8 => some (q_8.1, q_8.2, q_3.2))) else (if v1 = (43 : Int32) then (some ((0 : Int32), q_3.1, q_3.2)) else (if v1 = (44 : Int32) then (some ((0 : Int32), q_3.1, q_3.2)) else (if v1 = (45 : Int32) then (some ((0 : Int32), q_3.1, q_3.2)) else (if v1 = (46 : Int32) then (bnd (f_X5_closeRound hT_15 q_3.1 q_3.2 (gIA q_3.1 4 ((gI q_3.1 8) - (1 : Int32)).toNatClampNeg)) (fun q_10 => some (q_10.1, q_10.2.1, q_10.2.2))) else (if v1 = (47 : Int32) then (some ((0 : Int32), q_3.1, q_3.2)) else (if v1 = (48 : Int32) then (bnd (f_X5_closeSquare hT_15 q_3.1 q_3.2 (gIA q_3.1 4 ((gI q_3.1 8) - (1 : Int32)).toNatClampNeg)) (fun q_12 => some (q_12.1, q_12.2.1, q_12.2.2))) else (some ((0 : Int32), q_3.1, q_3.2))))))))))))))
def f_X5_readSign (n : Nat) (hT_15 : Nat) (gT : Gs) (gT_1 : Gs) (gT_15 : Gs) : Option (Int32 × Gs × Gs) :=
  bnd (f_X5_rankOf (gI gT_1 4)) (fun q_1 => if q_1 ≤ 0 then (if (gI gT_1 4) = (44 : Int32) then (b_X5_readSign_43 n hT_15 gT gT_1 gT_15 (gI gT_1 4) (0 : Int32) (0 : Int32)) else (b_X5_readSign_43 n hT_15 gT gT_1 gT_15 (gI gT_1 4) (1 : Int32) (0 : Int32))) else (bnd (f_X5_closeParts n hT_15 gT gT_15 q_1 (0 : Int32)) (fun q_16 => bnd (f_X5_readJoining hT_15 q_16.1 gT_1 q_16.2 (gI gT_1 4) q_1) (fun q_18 => some (q_18.1, q_18.2.1, q_18.2.2)))))
def S_X5_readSign_43 (l : Launch) (D : Dx) (hT : Nat) (aT : Nat → Nat) (yT : Nat → ClassId) (aT_1 : Nat → Nat) (yT_1 : Nat → ClassId) (hT_15 : Nat) (aT_15 : Nat → Nat) (yT_15 : Nat → ClassId) (fn : Gs → Gs → Gs → Int32 → Int32 → Int32 → Option (Int32 × Gs × Gs)) : Prop :=
  ∀ {p : Program} {e : Env} {s : State} {m : MethodId} {args : Array Value} {below : List Frame} {meth : Method} {c : Code} {H : Heap} {locs : List Loc} {A : Nat → Prop} {ls : Array Slot} {gT : Gs} {gT_1 : Gs} {gT_15 : Gs} {v1 : Int32} {s0 : Int32} {s1 : Int32} {q : Int32 × Gs × Gs}, Cx p s m args meth c cX5_readSign (some .int) 4 RX5 lw_all → Hx D (tX5 yT ++ (tX7 yT_1 ++ (tX0 yT_15))) A s H locs (wX5 hT aT yT gT ++ (wX7 (aT 1) aT_1 yT_1 gT_1 ++ (wX0 hT_15 aT_15 yT_15 gT_15))) → lv_has ls 4 [(0, .ref hT), (1, .int v1)] → fn gT gT_1 gT_15 v1 s0 s1 = some q → W p l e R_X5_readSign s m args below meth c H locs 0 0 (MQ below (QI D A (wX5 hT aT yT q.2.1 ++ (wX7 (aT 1) aT_1 yT_1 gT_1 ++ (wX0 hT_15 aT_15 yT_15 q.2.2))) q.1) args s 0 0 A) (F0 m 43 ls [.int s0, .int s1, .ref hT])
set_option maxHeartbeats 4000000 in
set_option maxRecDepth 100000 in
theorem k_X5_readSign_43 (l : Launch) (D : Dx) (hT : Nat) (aT : Nat → Nat) (yT : Nat → ClassId) (aT_1 : Nat → Nat) (yT_1 : Nat → ClassId) (hT_15 : Nat) (aT_15 : Nat → Nat) (yT_15 : Nat → ClassId) (n : Nat) : S_X5_readSign_43 l D hT aT yT aT_1 yT_1 hT_15 aT_15 yT_15 (b_X5_readSign_43 n hT_15) := by
  intro p e s m args below meth c H locs A ls gT gT_1 gT_15 v1 s0 s1 q C X hl hF
  obtain ⟨hx, hb, hr, hml, hown, hts, hlk⟩ := id C
  unfold b_X5_readSign_43 at hF
  obtain ⟨q_3, hc_4, hF⟩ := bnd_some hF
  refine cV_v (As := [.int s1, .int s0]) (rest := []) C X (c_X5_closeParts l D hT aT yT hT_15 aT_15 yT_15 n gT gT_15 s1 s0 q_3 hc_4 _) (cwV 2 hts (good_V q4_93 q4_95 q0_17 q1_10 q4_96) rfl rfl rfl (by decide +kernel) ⟨Nat.le_of_ble_eq_true rfl, Nat.le_of_ble_eq_true rfl⟩) (va_recv X.1 X.2.1 (ci := 5) (q0 := 0) rfl rfl) (X.1.sub (tys' := tX5 yT ++ (tX0 yT_15)) [0, 1, 2, 3, 4, 5, 6, 7, 8, 9, 10, 11, 12, 13, 14, 15, 16, 17, 18] rfl) (X.2.1.sub (ws' := wX5 hT aT yT gT ++ (wX0 hT_15 aT_15 yT_15 gT_15)) [0, 1, 2, 3, 4, 6, 7, 8, 9, 10, 11, 12, 13, 14, 15, 16, 17, 18, 19, 20, 21] rfl) (X.2.2.1.sub (ws' := wX5 hT aT yT gT ++ (wX0 hT_15 aT_15 yT_15 gT_15)) [0, 1, 2, 3, 4, 6, 7, 8, 9, 10, 11, 12, 13, 14, 15, 16, 17, 18, 19, 20, 21] (by decide) rfl) (free_of (wC := wX5 hT aT yT gT ++ (wX0 hT_15 aT_15 yT_15 gT_15)) (isC := [0, 1, 2, 3, 4, 6, 7, 8, 9, 10, 11, 12, 13, 14, 15, 16, 17, 18, 19, 20, 21]) X rfl) hl.1 rfl rfl (Nat.le_of_ble_eq_true rfl) dX5_readSign_43 ⟨Nat.le_of_ble_eq_true rfl, Nat.le_of_ble_eq_true rfl⟩ (fun t H1 locs1 ht hB hk hS => ?_)
  have X : Hx D (tX5 yT ++ (tX7 yT_1 ++ (tX0 yT_15))) A s H1 locs1 (wX5 hT aT yT q_3.1 ++ (wX7 (aT 1) aT_1 yT_1 gT_1 ++ (wX0 hT_15 aT_15 yT_15 q_3.2))) := Hx_after (isC := [0, 1, 2, 3, 4, 6, 7, 8, 9, 10, 11, 12, 13, 14, 15, 16, 17, 18, 19, 20, 21]) (isR := [5]) (pm := [1, 2, 3, 4, 5, 0, 6, 7, 8, 9, 10, 11, 12, 13, 14, 15, 16, 17, 18, 19, 20, 21]) (wr := wX7 (aT 1) aT_1 yT_1 gT_1) X ⟨rfl, rfl, by decide, by decide, rfl, by decide⟩ ht hB hk hS
  clear hk hS ht hB
  generalize H1 = H at X ⊢
  generalize locs1 = locs at X ⊢
  refine lv_iload_n hx hb dX5_readSign_46 rfl (lv_at hl 1 rfl) ?_
  refine lv_bipush (v := (44 : Int32)) hx hb dX5_readSign_47 (by decide) ?_
  refine lv_icmp_ne (tgt := 57) hx hb dX5_readSign_49 (by decide) (fun c => ?_) (fun c => ?_)
  · replace hF := iF c hF
    refine lv_aload_n hx hb dX5_readSign_57 rfl (lv_at hl 0 rfl) ?_
    refine va_get (D := D.1) (ci := 5) (v := .int (gI q_3.1 8)) (C := RX5) (T := TX5) (N := 18) hx hb hts wi_X5 hown X.1 X.2.1 0 rfl rfl 8 (by decide) (hts _ q3_59) (fun _ h9 => h9) (fl_get (by decide)) dX5_readSign_58 ?_
    refine lv_if_ne (tgt := 66) hx hb dX5_readSign_61 (by decide) (fun c => ?_) (fun c => ?_)
    · replace hF := iF c hF
      refine lv_aload_n hx hb dX5_readSign_66 rfl (lv_at hl 0 rfl) ?_
      refine va_get (D := D.1) (ci := 5) (v := .ref (aT 4)) (C := RX5) (T := TX5) (N := 18) hx hb hts wi_X5 hown X.1 X.2.1 0 rfl rfl 4 (by decide) (hts _ q3_55) (fun _ h9 => h9) (fl_get (by decide)) dX5_readSign_67 ?_
      refine lv_aload_n hx hb dX5_readSign_70 rfl (lv_at hl 0 rfl) ?_
      refine va_get (D := D.1) (ci := 5) (v := .int (gI q_3.1 8)) (C := RX5) (T := TX5) (N := 18) hx hb hts wi_X5 hown X.1 X.2.1 0 rfl rfl 8 (by decide) (hts _ q3_59) (fun _ h9 => h9) (fl_get (by decide)) dX5_readSign_71 ?_
      refine lv_iconst (v := (1 : Int32)) hx hb dX5_readSign_74 (by decide) ?_
      refine lv_isub hx hb dX5_readSign_75 ?_
      obtain ⟨h_5, hF⟩ := grd_some hF
      refine va_iald (D := D.1) (f := gIA q_3.1 4) hx hb X.1 X.2.1 1 0 rfl rfl (inB_ok h_5) dX5_readSign_76 ?_
      refine lv_istore_n (lv' := [(3, .int (gIA q_3.1 4 ((gI q_3.1 8) - (1 : Int32)).toNatClampNeg)), (0, .ref hT), (1, .int v1)]) hx hb dX5_readSign_77 rfl hl (by decide) rfl (fun ls hl => ?_)
      refine lv_iload_n hx hb dX5_readSign_78 rfl (lv_at hl 2 rfl) ?_
      by_cases c40 : v1 = (40 : Int32)
      · replace hF := iT c40 hF
        refine lv_tableIn (tgt := 128) (off := 49) hx hb dX5_readSign_79 (by rw [c40]; decide) (by rw [c40]; decide) (by rw [c40]; rfl) (by decide) ?_
        refine lv_iload_n hx hb dX5_readSign_128 rfl (lv_at hl 0 rfl) ?_
        refine lv_bipush (v := (44 : Int32)) hx hb dX5_readSign_129 (by decide) ?_
        refine lv_icmp_ne (tgt := 141) hx hb dX5_readSign_131 (by decide) (fun c => ?_) (fun c => ?_)
        · replace hF := iF c hF
          refine lv_iconst (v := (0 : Int32)) hx hb dX5_readSign_141 (by decide) ?_
          have hq := Option.some.inj hF
          subst hq
          exact rt_i C X dX5_readSign_142
        · replace hF := iT c hF
          refine lv_aload_n hx hb dX5_readSign_134 rfl (lv_at hl 1 rfl) ?_
          obtain ⟨q_6, hc_7, hF⟩ := bnd_some hF
          refine cV_i (As := []) (rest := []) C X (c_X5_readElse l D hT aT yT hT_15 aT_15 yT_15 q_3.1 q_3.2 q_6 hc_7 _) (cwV 0 hts (good_V q4_129 q4_131 q0_25 q1_10 q4_132) rfl rfl rfl (by decide +kernel) ⟨Nat.le_of_ble_eq_true rfl, Nat.le_of_ble_eq_true rfl⟩) (va_recv X.1 X.2.1 (ci := 5) (q0 := 0) rfl rfl) (X.1.sub (tys' := tX5 yT ++ (tX0 yT_15)) [0, 1, 2, 3, 4, 5, 6, 7, 8, 9, 10, 11, 12, 13, 14, 15, 16, 17, 18] rfl) (X.2.1.sub (ws' := wX5 hT aT yT q_3.1 ++ (wX0 hT_15 aT_15 yT_15 q_3.2)) [0, 1, 2, 3, 4, 6, 7, 8, 9, 10, 11, 12, 13, 14, 15, 16, 17, 18, 19, 20, 21] rfl) (X.2.2.1.sub (ws' := wX5 hT aT yT q_3.1 ++ (wX0 hT_15 aT_15 yT_15 q_3.2)) [0, 1, 2, 3, 4, 6, 7, 8, 9, 10, 11, 12, 13, 14, 15, 16, 17, 18, 19, 20, 21] (by decide) rfl) (free_of (wC := wX5 hT aT yT q_3.1 ++ (wX0 hT_15 aT_15 yT_15 q_3.2)) (isC := [0, 1, 2, 3, 4, 6, 7, 8, 9, 10, 11, 12, 13, 14, 15, 16, 17, 18, 19, 20, 21]) X rfl) hl.1 rfl rfl (Nat.le_of_ble_eq_true rfl) dX5_readSign_135 ⟨Nat.le_of_ble_eq_true rfl, Nat.le_of_ble_eq_true rfl⟩ (fun t H1 locs1 ht hB hk hS => ?_)
          have X : Hx D (tX5 yT ++ (tX7 yT_1 ++ (tX0 yT_15))) A s H1 locs1 (wX5 hT aT yT q_6.2.1 ++ (wX7 (aT 1) aT_1 yT_1 gT_1 ++ (wX0 hT_15 aT_15 yT_15 q_6.2.2))) := Hx_after (isC := [0, 1, 2, 3, 4, 6, 7, 8, 9, 10, 11, 12, 13, 14, 15, 16, 17, 18, 19, 20, 21]) (isR := [5]) (pm := [1, 2, 3, 4, 5, 0, 6, 7, 8, 9, 10, 11, 12, 13, 14, 15, 16, 17, 18, 19, 20, 21]) (wr := wX7 (aT 1) aT_1 yT_1 gT_1) X ⟨rfl, rfl, by decide, by decide, rfl, by decide⟩ ht hB hk hS
          clear hk hS ht hB
          generalize H1 = H at X ⊢
          generalize locs1 = locs at X ⊢
          refine lv_goto (tgt := 142) hx hb dX5_readSign_138 (by decide) ?_
          have hq := Option.some.inj hF
          subst hq
          exact rt_i C X dX5_readSign_142
      · replace hF := iF c40 hF
        by_cases c41 : v1 = (41 : Int32)
        · replace hF := iT c41 hF
          refine lv_tableIn (tgt := 161) (off := 82) hx hb dX5_readSign_79 (by rw [c41]; decide) (by rw [c41]; decide) (by rw [c41]; rfl) (by decide) ?_
          refine lv_iconst (v := (0 : Int32)) hx hb dX5_readSign_161 (by decide) ?_
          have hq := Option.some.inj hF
          subst hq
          exact rt_i C X dX5_readSign_162
        · replace hF := iF c41 hF
          by_cases c42 : v1 = (42 : Int32)
          · replace hF := iT c42 hF
            refine lv_tableIn (tgt := 143) (off := 64) hx hb dX5_readSign_79 (by rw [c42]; decide) (by rw [c42]; decide) (by rw [c42]; rfl) (by decide) ?_
            refine lv_aload_n hx hb dX5_readSign_143 rfl (lv_at hl 1 rfl) ?_
            refine lv_iload_n hx hb dX5_readSign_144 rfl (lv_at hl 0 rfl) ?_
            obtain ⟨q_8, hc_9, hF⟩ := bnd_some hF
            refine cV_i (As := [.int (gIA q_3.1 4 ((gI q_3.1 8) - (1 : Int32)).toNatClampNeg)]) (rest := []) C X (c_X5_readComma l D hT aT yT q_3.1 (gIA q_3.1 4 ((gI q_3.1 8) - (1 : Int32)).toNatClampNeg) q_8 hc_9 _) (cwV 1 hts (good_V q4_133 q4_135 q0_26 q1_10 q4_136) rfl rfl rfl (by decide +kernel) ⟨Nat.le_of_ble_eq_true rfl, Nat.le_of_ble_eq_true rfl⟩) (va_recv X.1 X.2.1 (ci := 5) (q0 := 0) rfl rfl) (X.1.sub (tys' := tX5 yT) [0, 1, 2, 3] rfl) (X.2.1.sub (ws' := wX5 hT aT yT q_3.1) [0, 1, 2, 3, 4] rfl) (X.2.2.1.sub (ws' := wX5 hT aT yT q_3.1) [0, 1, 2, 3, 4] (by decide) rfl) (free_of (wC := wX5 hT aT yT q_3.1) (isC := [0, 1, 2, 3, 4]) X rfl) hl.1 rfl rfl (Nat.le_of_ble_eq_true rfl) dX5_readSign_145 ⟨Nat.le_of_ble_eq_true rfl, Nat.le_of_ble_eq_true rfl⟩ (fun t H1 locs1 ht hB hk hS => ?_)
            have X : Hx D (tX5 yT ++ (tX7 yT_1 ++ (tX0 yT_15))) A s H1 locs1 (wX5 hT aT yT q_8.2 ++ (wX7 (aT 1) aT_1 yT_1 gT_1 ++ (wX0 hT_15 aT_15 yT_15 q_3.2))) := Hx_after (isC := [0, 1, 2, 3, 4]) (isR := [5, 6, 7, 8, 9, 10, 11, 12, 13, 14, 15, 16, 17, 18, 19, 20, 21]) (pm := [17, 18, 19, 20, 21, 0, 1, 2, 3, 4, 5, 6, 7, 8, 9, 10, 11, 12, 13, 14, 15, 16]) (wr := wX7 (aT 1) aT_1 yT_1 gT_1 ++ (wX0 hT_15 aT_15 yT_15 q_3.2)) X ⟨rfl, rfl, by decide, by decide, rfl, by decide⟩ ht hB hk hS
            clear hk hS ht hB
            generalize H1 = H at X ⊢
            generalize locs1 = locs at X ⊢
            have hq := Option.some.inj hF
            subst hq
            exact rt_i C X dX5_readSign_148
          · replace hF := iF c42 hF
            by_cases c43 : v1 = (43 : Int32)
            · replace hF := iT c43 hF
              refine lv_tableIn (tgt := 161) (off := 82) hx hb dX5_readSign_79 (by rw [c43]; decide) (by rw [c43]; decide) (by rw [c43]; rfl) (by decide) ?_
              refine lv_iconst (v := (0 : Int32)) hx hb dX5_readSign_161 (by decide) ?_
              have hq := Option.some.inj hF
              subst hq
              exact rt_i C X dX5_readSign_162
            · replace hF := iF c43 hF
              by_cases c44 : v1 = (44 : Int32)
              · replace hF := iT c44 hF
                refine lv_tableIn (tgt := 161) (off := 82) hx hb dX5_readSign_79 (by rw [c44]; decide) (by rw [c44]; decide) (by rw [c44]; rfl) (by decide) ?_
                refine lv_iconst (v := (0 : Int32)) hx hb dX5_readSign_161 (by decide) ?_
                have hq := Option.some.inj hF
                subst hq
                exact rt_i C X dX5_readSign_162
              · replace hF := iF c44 hF
                by_cases c45 : v1 = (45 : Int32)
                · replace hF := iT c45 hF
                  refine lv_tableIn (tgt := 161) (off := 82) hx hb dX5_readSign_79 (by rw [c45]; decide) (by rw [c45]; decide) (by rw [c45]; rfl) (by decide) ?_
                  refine lv_iconst (v := (0 : Int32)) hx hb dX5_readSign_161 (by decide) ?_
                  have hq := Option.some.inj hF
                  subst hq
                  exact rt_i C X dX5_readSign_162
                · replace hF := iF c45 hF
                  by_cases c46 : v1 = (46 : Int32)
                  · replace hF := iT c46 hF
                    refine lv_tableIn (tgt := 149) (off := 70) hx hb dX5_readSign_79 (by rw [c46]; decide) (by rw [c46]; decide) (by rw [c46]; rfl) (by decide) ?_
                    refine lv_aload_n hx hb dX5_readSign_149 rfl (lv_at hl 1 rfl) ?_
                    refine lv_iload_n hx hb dX5_readSign_150 rfl (lv_at hl 0 rfl) ?_
                    obtain ⟨q_10, hc_11, hF⟩ := bnd_some hF
                    refine cV_i (As := [.int (gIA q_3.1 4 ((gI q_3.1 8) - (1 : Int32)).toNatClampNeg)]) (rest := []) C X (c_X5_closeRound l D hT aT yT hT_15 aT_15 yT_15 q_3.1 q_3.2 (gIA q_3.1 4 ((gI q_3.1 8) - (1 : Int32)).toNatClampNeg) q_10 hc_11 _) (cwV 1 hts (good_V q4_140 q4_142 q0_27 q1_10 q4_143) rfl rfl rfl (by decide +kernel) ⟨Nat.le_of_ble_eq_true rfl, Nat.le_of_ble_eq_true rfl⟩) (va_recv X.1 X.2.1 (ci := 5) (q0 := 0) rfl rfl) (X.1.sub (tys' := tX5 yT ++ (tX0 yT_15)) [0, 1, 2, 3, 4, 5, 6, 7, 8, 9, 10, 11, 12, 13, 14, 15, 16, 17, 18] rfl) (X.2.1.sub (ws' := wX5 hT aT yT q_3.1 ++ (wX0 hT_15 aT_15 yT_15 q_3.2)) [0, 1, 2, 3, 4, 6, 7, 8, 9, 10, 11, 12, 13, 14, 15, 16, 17, 18, 19, 20, 21] rfl) (X.2.2.1.sub (ws' := wX5 hT aT yT q_3.1 ++ (wX0 hT_15 aT_15 yT_15 q_3.2)) [0, 1, 2, 3, 4, 6, 7, 8, 9, 10, 11, 12, 13, 14, 15, 16, 17, 18, 19, 20, 21] (by decide) rfl) (free_of (wC := wX5 hT aT yT q_3.1 ++ (wX0 hT_15 aT_15 yT_15 q_3.2)) (isC := [0, 1, 2, 3, 4, 6, 7, 8, 9, 10, 11, 12, 13, 14, 15, 16, 17, 18, 19, 20, 21]) X rfl) hl.1 rfl rfl (Nat.le_of_ble_eq_true rfl) dX5_readSign_151 ⟨Nat.le_of_ble_eq_true rfl, Nat.le_of_ble_eq_true rfl⟩ (fun t H1 locs1 ht hB hk hS => ?_)
                    have X : Hx D (tX5 yT ++ (tX7 yT_1 ++ (tX0 yT_15))) A s H1 locs1 (wX5 hT aT yT q_10.2.1 ++ (wX7 (aT 1) aT_1 yT_1 gT_1 ++ (wX0 hT_15 aT_15 yT_15 q_10.2.2))) := Hx_after (isC := [0, 1, 2, 3, 4, 6, 7, 8, 9, 10, 11, 12, 13, 14, 15, 16, 17, 18, 19, 20, 21]) (isR := [5]) (pm := [1, 2, 3, 4, 5, 0, 6, 7, 8, 9, 10, 11, 12, 13, 14, 15, 16, 17, 18, 19, 20, 21]) (wr := wX7 (aT 1) aT_1 yT_1 gT_1) X ⟨rfl, rfl, by decide, by decide, rfl, by decide⟩ ht hB hk hS
                    clear hk hS ht hB
                    generalize H1 = H at X ⊢
                    generalize locs1 = locs at X ⊢
                    have hq := Option.some.inj hF
                    subst hq
                    exact rt_i C X dX5_readSign_154
                  · replace hF := iF c46 hF
                    by_cases c47 : v1 = (47 : Int32)
                    · replace hF := iT c47 hF
                      refine lv_tableIn (tgt := 161) (off := 82) hx hb dX5_readSign_79 (by rw [c47]; decide) (by rw [c47]; decide) (by rw [c47]; rfl) (by decide) ?_
                      refine lv_iconst (v := (0 : Int32)) hx hb dX5_readSign_161 (by decide) ?_
                      have hq := Option.some.inj hF
                      subst hq
                      exact rt_i C X dX5_readSign_162
                    · replace hF := iF c47 hF
                      by_cases c48 : v1 = (48 : Int32)
                      · replace hF := iT c48 hF
                        refine lv_tableIn (tgt := 155) (off := 76) hx hb dX5_readSign_79 (by rw [c48]; decide) (by rw [c48]; decide) (by rw [c48]; rfl) (by decide) ?_
                        refine lv_aload_n hx hb dX5_readSign_155 rfl (lv_at hl 1 rfl) ?_
                        refine lv_iload_n hx hb dX5_readSign_156 rfl (lv_at hl 0 rfl) ?_
                        obtain ⟨q_12, hc_13, hF⟩ := bnd_some hF
                        refine cV_i (As := [.int (gIA q_3.1 4 ((gI q_3.1 8) - (1 : Int32)).toNatClampNeg)]) (rest := []) C X (c_X5_closeSquare l D hT aT yT hT_15 aT_15 yT_15 q_3.1 q_3.2 (gIA q_3.1 4 ((gI q_3.1 8) - (1 : Int32)).toNatClampNeg) q_12 hc_13 _) (cwV 1 hts (good_V q4_144 q4_146 q0_28 q1_10 q4_147) rfl rfl rfl (by decide +kernel) ⟨Nat.le_of_ble_eq_true rfl, Nat.le_of_ble_eq_true rfl⟩) (va_recv X.1 X.2.1 (ci := 5) (q0 := 0) rfl rfl) (X.1.sub (tys' := tX5 yT ++ (tX0 yT_15)) [0, 1, 2, 3, 4, 5, 6, 7, 8, 9, 10, 11, 12, 13, 14, 15, 16, 17, 18] rfl) (X.2.1.sub (ws' := wX5 hT aT yT q_3.1 ++ (wX0 hT_15 aT_15 yT_15 q_3.2)) [0, 1, 2, 3, 4, 6, 7, 8, 9, 10, 11, 12, 13, 14, 15, 16, 17, 18, 19, 20, 21] rfl) (X.2.2.1.sub (ws' := wX5 hT aT yT q_3.1 ++ (wX0 hT_15 aT_15 yT_15 q_3.2)) [0, 1, 2, 3, 4, 6, 7, 8, 9, 10, 11, 12, 13, 14, 15, 16, 17, 18, 19, 20, 21] (by decide) rfl) (free_of (wC := wX5 hT aT yT q_3.1 ++ (wX0 hT_15 aT_15 yT_15 q_3.2)) (isC := [0, 1, 2, 3, 4, 6, 7, 8, 9, 10, 11, 12, 13, 14, 15, 16, 17, 18, 19, 20, 21]) X rfl) hl.1 rfl rfl (Nat.le_of_ble_eq_true rfl) dX5_readSign_157 ⟨Nat.le_of_ble_eq_true rfl, Nat.le_of_ble_eq_true rfl⟩ (fun t H1 locs1 ht hB hk hS => ?_)
                        have X : Hx D (tX5 yT ++ (tX7 yT_1 ++ (tX0 yT_15))) A s H1 locs1 (wX5 hT aT yT q_12.2.1 ++ (wX7 (aT 1) aT_1 yT_1 gT_1 ++ (wX0 hT_15 aT_15 yT_15 q_12.2.2))) := Hx_after (isC := [0, 1, 2, 3, 4, 6, 7, 8, 9, 10, 11, 12, 13, 14, 15, 16, 17, 18, 19, 20, 21]) (isR := [5]) (pm := [1, 2, 3, 4, 5, 0, 6, 7, 8, 9, 10, 11, 12, 13, 14, 15, 16, 17, 18, 19, 20, 21]) (wr := wX7 (aT 1) aT_1 yT_1 gT_1) X ⟨rfl, rfl, by decide, by decide, rfl, by decide⟩ ht hB hk hS
                        clear hk hS ht hB
                        generalize H1 = H at X ⊢
                        generalize locs1 = locs at X ⊢
                        have hq := Option.some.inj hF
                        subst hq
                        exact rt_i C X dX5_readSign_160
                      · replace hF := iF c48 hF
                        refine lv_tableOut (tgt := 161) hx hb dX5_readSign_79 (tbl_out (40) (48) 9 (by decide) ⟨tne c40 (by decide), ⟨tne c41 (by decide), ⟨tne c42 (by decide), ⟨tne c43 (by decide), ⟨tne c44 (by decide), ⟨tne c45 (by decide), ⟨tne c46 (by decide), ⟨tne c47 (by decide), ⟨tne c48 (by decide), trivial⟩⟩⟩⟩⟩⟩⟩⟩⟩) (by decide) ?_
                        refine lv_iconst (v := (0 : Int32)) hx hb dX5_readSign_161 (by decide) ?_
                        have hq := Option.some.inj hF
                        subst hq
                        exact rt_i C X dX5_readSign_162
    · replace hF := iT c hF
      refine lv_iconst (v := (1 : Int32)) hx hb dX5_readSign_64 (by decide) ?_
      have hq := Option.some.inj hF
      subst hq
      exact rt_i C X dX5_readSign_65
  · replace hF := iT c hF
    refine lv_aload_n hx hb dX5_readSign_52 rfl (lv_at hl 0 rfl) ?_
    obtain ⟨q_14, hc_15, hF⟩ := bnd_some hF
    refine cV_i (As := []) (rest := []) C X (c_X5_readQuestion l D hT aT yT aT_1 yT_1 hT_15 aT_15 yT_15 q_3.1 gT_1 q_3.2 q_14 hc_15 _) (cwV 0 hts (good_V q4_121 q4_123 q0_23 q1_10 q4_124) rfl rfl rfl (by decide +kernel) ⟨Nat.le_of_ble_eq_true rfl, Nat.le_of_ble_eq_true rfl⟩) (va_recv X.1 X.2.1 (ci := 5) (q0 := 0) rfl rfl) X.1 X.2.1 X.2.2.1 (free_all X) hl.1 rfl rfl (Nat.le_of_ble_eq_true rfl) dX5_readSign_53 ⟨Nat.le_of_ble_eq_true rfl, Nat.le_of_ble_eq_true rfl⟩ (fun t H1 locs1 ht hB hk hS => ?_)
    have X : Hx D (tX5 yT ++ (tX7 yT_1 ++ (tX0 yT_15))) A s H1 locs1 (wX5 hT aT yT q_14.2.1 ++ (wX7 (aT 1) aT_1 yT_1 gT_1 ++ (wX0 hT_15 aT_15 yT_15 q_14.2.2))) := Hx_after_all X ht hB hS
    clear hk hS ht hB
    generalize H1 = H at X ⊢
    generalize locs1 = locs at X ⊢
    have hq := Option.some.inj hF
    subst hq
    exact rt_i C X dX5_readSign_56
set_option maxHeartbeats 4000000 in
set_option maxRecDepth 100000 in
theorem c_X5_readSign (l : Launch) (D : Dx) (hT : Nat) (aT : Nat → Nat) (yT : Nat → ClassId) (aT_1 : Nat → Nat) (yT_1 : Nat → ClassId) (hT_15 : Nat) (aT_15 : Nat → Nat) (yT_15 : Nat → ClassId) (n : Nat) (gT : Gs) (gT_1 : Gs) (gT_15 : Gs) (q : Int32 × Gs × Gs) (hF : f_X5_readSign n hT_15 gT gT_1 gT_15 = some q) (sz : Nat) : Met l yX5_readSign (ws_ yX5_readSign cX5_readSign 4 (some .int)) R_X5_readSign (PC D (tX5 yT ++ (tX7 yT_1 ++ (tX0 yT_15))) [.ref hT] (wX5 hT aT yT gT ++ (wX7 (aT 1) aT_1 yT_1 gT_1 ++ (wX0 hT_15 aT_15 yT_15 gT_15))) sz) (QI D (va_A (wX5 hT aT yT gT ++ (wX7 (aT 1) aT_1 yT_1 gT_1 ++ (wX0 hT_15 aT_15 yT_15 gT_15))) sz) (wX5 hT aT yT q.2.1 ++ (wX7 (aT 1) aT_1 yT_1 gT_1 ++ (wX0 hT_15 aT_15 yT_15 q.2.2))) q.1) 0 0 (va_A (wX5 hT aT yT gT ++ (wX7 (aT 1) aT_1 yT_1 gT_1 ++ (wX0 hT_15 aT_15 yT_15 gT_15))) sz) := by
  refine Met.ofW (cc := cX5_readSign) (maxL := 4) (ret := (some .int)) (by decide) rfl ?_
  intro p e s m args below meth c s₁ B hml hv
  obtain ⟨rfl, hsz, hP, hK, hD, hN⟩ := hv
  subst hsz
  have C : Cx p s m _ meth c cX5_readSign (some .int) 4 RX5 lw_all := Cx_of B hml
  have X := Hx_start hP hK hD hN
  obtain ⟨hx, hb, hr, -, hown, hts, hlk⟩ := id C
  generalize va_A (wX5 hT aT yT gT ++ (wX7 (aT 1) aT_1 yT_1 gT_1 ++ (wX0 hT_15 aT_15 yT_15 gT_15))) s.heap.size = A at X ⊢
  have hl := lv_entry ([.ref hT]) (n := 4) (Nat.le_of_ble_eq_true rfl)
  rw [lg_entry_eq]
  generalize (lg_sl ([.ref hT]) ++ List.replicate (4 - (lg_sl ([.ref hT])).length) Slot.unset).toArray = ls at hl ⊢
  have hl : lv_has ls 4 [(0, .ref hT)] := hl
  unfold f_X5_readSign at hF
  refine lv_aload_n hx hb dX5_readSign_0 rfl (lv_at hl 0 rfl) ?_
  refine va_get (D := D.1) (ci := 5) (v := .ref (aT 1)) (C := RX5) (T := TX5) (N := 18) hx hb hts wi_X5 hown X.1 X.2.1 0 rfl rfl 1 (by decide) (hts _ q3_52) (fun _ h9 => h9) (fl_get (by decide)) dX5_readSign_1 ?_
  refine va_getN (D := D.1) (ci := 7) (v := .int (gI gT_1 4)) (C := RX7) (T := TX7) (N := 12) hx hb hts wi_X7 hown X.1 X.2.1 5 rfl rfl 4 (by decide) (X.2.2.2.2.2.1.use q3_0 rfl) (fun _ h9 => h9) (fl_get (by decide)) dX5_readSign_4 ?_
  refine lv_istore_n (lv' := [(1, .int (gI gT_1 4)), (0, .ref hT)]) hx hb dX5_readSign_7 rfl hl (by decide) rfl (fun ls hl => ?_)
  refine lv_iload_n hx hb dX5_readSign_8 rfl (lv_at hl 0 rfl) ?_
  obtain ⟨q_1, hc_2, hF⟩ := bnd_some hF
  refine cS_i (As := [.int (gI gT_1 4)]) (rest := []) C X (c_X5_rankOf l D  (gI gT_1 4) q_1 hc_2 _) (va_cwS 1 hts (good_S q4_90 q4_91 q1_10 q4_92) rfl rfl rfl (by decide +kernel) ⟨Nat.le_of_ble_eq_true rfl, Nat.le_of_ble_eq_true rfl⟩) (eK X) eP (eD (A := A)) (eF X) hl.1 rfl rfl (Nat.le_of_ble_eq_true rfl) dX5_readSign_9 ⟨Nat.le_of_ble_eq_true rfl, Nat.le_of_ble_eq_true rfl⟩ (fun t H1 locs1 ht hB hk hS => ?_)
  have X := Hx_after_none X hk hS
  clear hk hS ht hB
  generalize H1 = H at X ⊢
  generalize locs1 = locs at X ⊢
  refine lv_istore_n (lv' := [(2, .int q_1), (1, .int (gI gT_1 4)), (0, .ref hT)]) hx hb dX5_readSign_12 rfl hl (by decide) rfl (fun ls hl => ?_)
  refine lv_iload_n hx hb dX5_readSign_13 rfl (lv_at hl 0 rfl) ?_
  refine lv_if_le (tgt := 30) hx hb dX5_readSign_14 (by decide) (fun c => ?_) (fun c => ?_)
  · replace hF := iT c hF
    refine lv_aload_n hx hb dX5_readSign_30 rfl (lv_at hl 2 rfl) ?_
    refine lv_iconst (v := (0 : Int32)) hx hb dX5_readSign_31 (by decide) ?_
    refine lv_iload_n hx hb dX5_readSign_32 rfl (lv_at hl 1 rfl) ?_
    refine lv_bipush (v := (44 : Int32)) hx hb dX5_readSign_33 (by decide) ?_
    refine lv_icmp_eq (tgt := 42) hx hb dX5_readSign_35 (by decide) (fun c => ?_) (fun c => ?_)
    · replace hF := iT c hF
      refine lv_iconst (v := (0 : Int32)) hx hb dX5_readSign_42 (by decide) ?_
      exact (k_X5_readSign_43 l D hT aT yT aT_1 yT_1 hT_15 aT_15 yT_15 n) C X (lv_sub hl [2, 1] rfl) hF
    · replace hF := iF c hF
      refine lv_iconst (v := (1 : Int32)) hx hb dX5_readSign_38 (by decide) ?_
      refine lv_goto (tgt := 43) hx hb dX5_readSign_39 (by decide) ?_
      exact (k_X5_readSign_43 l D hT aT yT aT_1 yT_1 hT_15 aT_15 yT_15 n) C X (lv_sub hl [2, 1] rfl) hF
  · replace hF := iF c hF
    refine lv_aload_n hx hb dX5_readSign_17 rfl (lv_at hl 2 rfl) ?_
    refine lv_iload_n hx hb dX5_readSign_18 rfl (lv_at hl 0 rfl) ?_
    refine lv_iconst (v := (0 : Int32)) hx hb dX5_readSign_19 (by decide) ?_
    obtain ⟨q_16, hc_17, hF⟩ := bnd_some hF
    refine cV_v (As := [.int q_1, .int (0 : Int32)]) (rest := []) C X (c_X5_closeParts l D hT aT yT hT_15 aT_15 yT_15 n gT gT_15 q_1 (0 : Int32) q_16 hc_17 _) (cwV 2 hts (good_V q4_93 q4_95 q0_17 q1_10 q4_96) rfl rfl rfl (by decide +kernel) ⟨Nat.le_of_ble_eq_true rfl, Nat.le_of_ble_eq_true rfl⟩) (va_recv X.1 X.2.1 (ci := 5) (q0 := 0) rfl rfl) (X.1.sub (tys' := tX5 yT ++ (tX0 yT_15)) [0, 1, 2, 3, 4, 5, 6, 7, 8, 9, 10, 11, 12, 13, 14, 15, 16, 17, 18] rfl) (X.2.1.sub (ws' := wX5 hT aT yT gT ++ (wX0 hT_15 aT_15 yT_15 gT_15)) [0, 1, 2, 3, 4, 6, 7, 8, 9, 10, 11, 12, 13, 14, 15, 16, 17, 18, 19, 20, 21] rfl) (X.2.2.1.sub (ws' := wX5 hT aT yT gT ++ (wX0 hT_15 aT_15 yT_15 gT_15)) [0, 1, 2, 3, 4, 6, 7, 8, 9, 10, 11, 12, 13, 14, 15, 16, 17, 18, 19, 20, 21] (by decide) rfl) (free_of (wC := wX5 hT aT yT gT ++ (wX0 hT_15 aT_15 yT_15 gT_15)) (isC := [0, 1, 2, 3, 4, 6, 7, 8, 9, 10, 11, 12, 13, 14, 15, 16, 17, 18, 19, 20, 21]) X rfl) hl.1 rfl rfl (Nat.le_of_ble_eq_true rfl) dX5_readSign_20 ⟨Nat.le_of_ble_eq_true rfl, Nat.le_of_ble_eq_true rfl⟩ (fun t H1 locs1 ht hB hk hS => ?_)
    have X : Hx D (tX5 yT ++ (tX7 yT_1 ++ (tX0 yT_15))) A s H1 locs1 (wX5 hT aT yT q_16.1 ++ (wX7 (aT 1) aT_1 yT_1 gT_1 ++ (wX0 hT_15 aT_15 yT_15 q_16.2))) := Hx_after (isC := [0, 1, 2, 3, 4, 6, 7, 8, 9, 10, 11, 12, 13, 14, 15, 16, 17, 18, 19, 20, 21]) (isR := [5]) (pm := [1, 2, 3, 4, 5, 0, 6, 7, 8, 9, 10, 11, 12, 13, 14, 15, 16, 17, 18, 19, 20, 21]) (wr := wX7 (aT 1) aT_1 yT_1 gT_1) X ⟨rfl, rfl, by decide, by decide, rfl, by decide⟩ ht hB hk hS
    clear hk hS ht hB
    generalize H1 = H at X ⊢
    generalize locs1 = locs at X ⊢
    refine lv_aload_n hx hb dX5_readSign_23 rfl (lv_at hl 2 rfl) ?_
    refine lv_iload_n hx hb dX5_readSign_24 rfl (lv_at hl 1 rfl) ?_
    refine lv_iload_n hx hb dX5_readSign_25 rfl (lv_at hl 0 rfl) ?_
    obtain ⟨q_18, hc_19, hF⟩ := bnd_some hF
    refine cV_i (As := [.int (gI gT_1 4), .int q_1]) (rest := []) C X (c_X5_readJoining l D hT aT yT aT_1 yT_1 hT_15 aT_15 yT_15 q_16.1 gT_1 q_16.2 (gI gT_1 4) q_1 q_18 hc_19 _) (cwV 2 hts (good_V q4_109 q4_111 q0_20 q1_10 q4_112) rfl rfl rfl (by decide +kernel) ⟨Nat.le_of_ble_eq_true rfl, Nat.le_of_ble_eq_true rfl⟩) (va_recv X.1 X.2.1 (ci := 5) (q0 := 0) rfl rfl) X.1 X.2.1 X.2.2.1 (free_all X) hl.1 rfl rfl (Nat.le_of_ble_eq_true rfl) dX5_readSign_26 ⟨Nat.le_of_ble_eq_true rfl, Nat.le_of_ble_eq_true rfl⟩ (fun t H1 locs1 ht hB hk hS => ?_)
    have X : Hx D (tX5 yT ++ (tX7 yT_1 ++ (tX0 yT_15))) A s H1 locs1 (wX5 hT aT yT q_18.2.1 ++ (wX7 (aT 1) aT_1 yT_1 gT_1 ++ (wX0 hT_15 aT_15 yT_15 q_18.2.2))) := Hx_after_all X ht hB hS
    clear hk hS ht hB
    generalize H1 = H at X ⊢
    generalize locs1 = locs at X ⊢
    have hq := Option.some.inj hF
    subst hq
    exact rt_i C X dX5_readSign_29
