def kdX1 (k : Nat) : Nat := ([3, 3, 3, 3, 0, 0, 0] : List Nat).getD k 9
def ksX1 : List Nat := [2, 3]
def akX1 (k : Nat) : Nat := ([9, 9, 1, 2, 9, 9, 9] : List Nat).getD k 9
def lnX1 (k : Nat) : Nat := ([0, 0, 512, 512, 0, 0, 0] : List Nat).getD k 0
def tkX1 (k : Nat) : FieldType := ([.int, .int, .long, .double, .int, .int, .int] : List FieldType).getD k .int
abbrev wX1 (h : Nat) (a : Nat → Nat) (y : Nat → ClassId) (g : Gs) : va_W := wG 1 7 kdX1 ksX1 akX1 lnX1 h a y g
abbrev tX1 (y : Nat → ClassId) : List (ClassId × FieldType) := tG ksX1 tkX1 y
theorem ndX1 : va_nd ksX1 = true := by decide
theorem wi_X1 : ∀ w ∈ u_ws RX1 TX1 7, w ∈ lw_all := wi_all (wi_eq rfl (wi_ch tc_1 [147, 149, 151, 153, 155, 157, 159]))
theorem q1_143 : Cond.fieldLink RX1 19 "TurningHall$Machine" "height" "I" ∈ lw_all := lw_in (tc_1 (List.mem_of_getElem? (i := 143) rfl)) rfl
theorem q1_139 : Cond.fieldLink RX1 9 "TurningHall$Machine" "wholes" "[J" ∈ lw_all := lw_in (tc_1 (List.mem_of_getElem? (i := 139) rfl)) rfl
theorem q1_141 : Cond.fieldLink RX1 15 "TurningHall$Machine" "doubles" "[D" ∈ lw_all := lw_in (tc_1 (List.mem_of_getElem? (i := 141) rfl)) rfl
theorem q1_138 : Cond.fieldLink RX1 33 "TurningHall$Machine" "now" "LTurningHall$State;" ∈ lw_all := lw_in (tc_1 (List.mem_of_getElem? (i := 138) rfl)) rfl
theorem q1_54 : Cond.fieldLinkNest RX1 74 "TurningHall$State" "whole" "[J" "TurningHall" ∈ lw_tbl := tc_1 (List.mem_of_getElem? (i := 54) rfl)
theorem q1_57 : Cond.fieldLinkNest RX1 80 "TurningHall$State" "real" "[D" "TurningHall" ∈ lw_tbl := tc_1 (List.mem_of_getElem? (i := 57) rfl)
theorem q5_38 : Cond.methodLink RX1 117 yX1_push ∈ lw_all := lw_in (tc_5 (List.mem_of_getElem? (i := 38) rfl)) rfl
theorem q5_40 : Cond.instanceMethod yX1_push ∈ lw_all := lw_in (tc_5 (List.mem_of_getElem? (i := 40) rfl)) rfl
theorem q0_47 : Cond.selects RX1 yX1_push yX1_push ∈ lw_all := lw_in (tc_0 (List.mem_of_getElem? (i := 47) rfl)) rfl
theorem q1_4 : Cond.initialized RX1 ∈ lw_all := lw_in (tc_1 (List.mem_of_getElem? (i := 4) rfl)) rfl
theorem q5_41 : Cond.code yX1_push cX1_push 5 none ∈ lw_all := lw_in (tc_5 (List.mem_of_getElem? (i := 41) rfl)) rfl
theorem q1_60 : Cond.fieldLinkNest RX1 71 "TurningHall$State" "oldWhole" "[J" "TurningHall" ∈ lw_tbl := tc_1 (List.mem_of_getElem? (i := 60) rfl)
theorem q1_63 : Cond.fieldLinkNest RX1 77 "TurningHall$State" "oldReal" "[D" "TurningHall" ∈ lw_tbl := tc_1 (List.mem_of_getElem? (i := 63) rfl)
theorem q5_55 : Cond.methodLink RX1 181 yX6_wholeOf ∈ lw_all := lw_in (tc_5 (List.mem_of_getElem? (i := 55) rfl)) rfl
theorem q5_56 : Cond.static yX6_wholeOf ∈ lw_all := lw_in (tc_5 (List.mem_of_getElem? (i := 56) rfl)) rfl
theorem q5_57 : Cond.code yX6_wholeOf cX6_wholeOf 3 (some .long) ∈ lw_all := lw_in (tc_5 (List.mem_of_getElem? (i := 57) rfl)) rfl
theorem q5_54 : Cond.methodLink RX1 175 yX6_isBeyond ∈ lw_all := lw_in (tc_5 (List.mem_of_getElem? (i := 54) rfl)) rfl
theorem q3_216 : Cond.static yX6_isBeyond ∈ lw_all := lw_in (tc_3 (List.mem_of_getElem? (i := 216) rfl)) rfl
theorem q3_217 : Cond.code yX6_isBeyond cX6_isBeyond 2 (some .boolean) ∈ lw_all := lw_in (tc_3 (List.mem_of_getElem? (i := 217) rfl)) rfl
theorem q1_144 : Cond.fieldLink RX1 23 "TurningHall$Machine" "jam" "I" ∈ lw_all := lw_in (tc_1 (List.mem_of_getElem? (i := 144) rfl)) rfl
theorem q5_50 : Cond.methodLink RX1 99 yX1_become ∈ lw_all := lw_in (tc_5 (List.mem_of_getElem? (i := 50) rfl)) rfl
theorem q5_52 : Cond.instanceMethod yX1_become ∈ lw_all := lw_in (tc_5 (List.mem_of_getElem? (i := 52) rfl)) rfl
theorem q0_50 : Cond.selects RX1 yX1_become yX1_become ∈ lw_all := lw_in (tc_0 (List.mem_of_getElem? (i := 50) rfl)) rfl
theorem q5_53 : Cond.code yX1_become cX1_become 4 none ∈ lw_all := lw_in (tc_5 (List.mem_of_getElem? (i := 53) rfl)) rfl
theorem q2_92 : Cond.fieldLinkNest RX1 166 "TurningHall$Plan" "cams" "I" "TurningHall" ∈ lw_tbl := tc_2 (List.mem_of_getElem? (i := 92) rfl)
theorem q2_115 : Cond.fieldLinkNest RX1 169 "TurningHall$Plan" "teethCount" "[I" "TurningHall" ∈ lw_tbl := tc_2 (List.mem_of_getElem? (i := 115) rfl)
theorem q2_112 : Cond.fieldLinkNest RX1 172 "TurningHall$Plan" "teeth" "[D" "TurningHall" ∈ lw_tbl := tc_2 (List.mem_of_getElem? (i := 112) rfl)
theorem q1_228 : Cond.fieldLinkNest RX1 129 "TurningHall$Code" "arg" "[I" "TurningHall" ∈ lw_tbl := tc_1 (List.mem_of_getElem? (i := 228) rfl)
theorem q5_58 : Cond.methodLink RX1 160 Lib.Math.max.name ∈ lw_all := lw_in (tc_5 (List.mem_of_getElem? (i := 58) rfl)) rfl
theorem q1_219 : Cond.fieldLinkNest RX1 150 "TurningHall$Code" "left" "[I" "TurningHall" ∈ lw_tbl := tc_1 (List.mem_of_getElem? (i := 219) rfl)
theorem q1_216 : Cond.fieldLinkNest RX1 143 "TurningHall$Code" "sort" "[I" "TurningHall" ∈ lw_tbl := tc_1 (List.mem_of_getElem? (i := 216) rfl)
theorem q5_67 : Cond.methodLink RX1 185 yX6_floorOf ∈ lw_all := lw_in (tc_5 (List.mem_of_getElem? (i := 67) rfl)) rfl
theorem q5_74 : Cond.methodLink RX1 189 yX6_ceilOf ∈ lw_all := lw_in (tc_5 (List.mem_of_getElem? (i := 74) rfl)) rfl
theorem q5_75 : Cond.static yX6_ceilOf ∈ lw_all := lw_in (tc_5 (List.mem_of_getElem? (i := 75) rfl)) rfl
theorem q5_76 : Cond.code yX6_ceilOf cX6_ceilOf 2 (some .double) ∈ lw_all := lw_in (tc_5 (List.mem_of_getElem? (i := 76) rfl)) rfl
theorem q5_78 : Cond.methodLink RX1 192 yX6_rintOf ∈ lw_all := lw_in (tc_5 (List.mem_of_getElem? (i := 78) rfl)) rfl
theorem q5_79 : Cond.static yX6_rintOf ∈ lw_all := lw_in (tc_5 (List.mem_of_getElem? (i := 79) rfl)) rfl
theorem q5_80 : Cond.code yX6_rintOf cX6_rintOf 11 (some .double) ∈ lw_all := lw_in (tc_5 (List.mem_of_getElem? (i := 80) rfl)) rfl
theorem q5_84 : Cond.methodLink RX1 195 yX6_sizeOf ∈ lw_all := lw_in (tc_5 (List.mem_of_getElem? (i := 84) rfl)) rfl
theorem q5_134 : Cond.methodLink RX1 220 Lib.MathLoose.min_long.x ∈ lw_all := lw_in (tc_5 (List.mem_of_getElem? (i := 134) rfl)) rfl
theorem q5_135 : Cond.static Lib.MathLoose.min_long.x ∈ lw_all := lw_in (tc_5 (List.mem_of_getElem? (i := 135) rfl)) rfl
theorem q5_136 : Cond.code Lib.MathLoose.min_long.x Lib.MathLoose.min_long.code 4 (some .long) ∈ lw_all := lw_in (tc_5 (List.mem_of_getElem? (i := 136) rfl)) rfl
theorem q5_137 : Cond.methodLink RX1 224 Lib.MathLoose.max_long.x ∈ lw_all := lw_in (tc_5 (List.mem_of_getElem? (i := 137) rfl)) rfl
theorem q5_138 : Cond.static Lib.MathLoose.max_long.x ∈ lw_all := lw_in (tc_5 (List.mem_of_getElem? (i := 138) rfl)) rfl
theorem q5_139 : Cond.code Lib.MathLoose.max_long.x Lib.MathLoose.max_long.code 4 (some .long) ∈ lw_all := lw_in (tc_5 (List.mem_of_getElem? (i := 139) rfl)) rfl
theorem q5_113 : Cond.methodLink RX1 230 yX6_leastOf ∈ lw_all := lw_in (tc_5 (List.mem_of_getElem? (i := 113) rfl)) rfl
theorem q5_114 : Cond.static yX6_leastOf ∈ lw_all := lw_in (tc_5 (List.mem_of_getElem? (i := 114) rfl)) rfl
theorem q5_115 : Cond.code yX6_leastOf cX6_leastOf 4 (some .double) ∈ lw_all := lw_in (tc_5 (List.mem_of_getElem? (i := 115) rfl)) rfl
theorem q5_116 : Cond.methodLink RX1 233 yX6_mostOf ∈ lw_all := lw_in (tc_5 (List.mem_of_getElem? (i := 116) rfl)) rfl
theorem q5_117 : Cond.static yX6_mostOf ∈ lw_all := lw_in (tc_5 (List.mem_of_getElem? (i := 117) rfl)) rfl
theorem q5_118 : Cond.code yX6_mostOf cX6_mostOf 4 (some .double) ∈ lw_all := lw_in (tc_5 (List.mem_of_getElem? (i := 118) rfl)) rfl
theorem q1_137 : Cond.fieldLink RX1 29 "TurningHall$Machine" "reals" "LTurningHall$Reals;" ∈ lw_all := lw_in (tc_1 (List.mem_of_getElem? (i := 137) rfl)) rfl
theorem q5_119 : Cond.methodLink RX1 236 yX6_gcdOf ∈ lw_all := lw_in (tc_5 (List.mem_of_getElem? (i := 119) rfl)) rfl
theorem q5_120 : Cond.instanceMethod yX6_gcdOf ∈ lw_all := lw_in (tc_5 (List.mem_of_getElem? (i := 120) rfl)) rfl
theorem q5_121 : Cond.selects RX6 yX6_gcdOf yX6_gcdOf ∈ lw_all := lw_in (tc_5 (List.mem_of_getElem? (i := 121) rfl)) rfl
theorem q5_122 : Cond.code yX6_gcdOf cX6_gcdOf 12 (some .double) ∈ lw_all := lw_in (tc_5 (List.mem_of_getElem? (i := 122) rfl)) rfl
theorem q5_102 : Cond.methodLink RX1 226 yX6_remainder ∈ lw_all := lw_in (tc_5 (List.mem_of_getElem? (i := 102) rfl)) rfl
theorem q5_127 : Cond.methodLink RX1 243 yX1_ofDoubles ∈ lw_all := lw_in (tc_5 (List.mem_of_getElem? (i := 127) rfl)) rfl
theorem q5_128 : Cond.static yX1_ofDoubles ∈ lw_all := lw_in (tc_5 (List.mem_of_getElem? (i := 128) rfl)) rfl
theorem q5_129 : Cond.code yX1_ofDoubles cX1_ofDoubles 5 (some .double) ∈ lw_all := lw_in (tc_5 (List.mem_of_getElem? (i := 129) rfl)) rfl
theorem q5_124 : Cond.methodLink RX1 239 yX1_ofFloats ∈ lw_all := lw_in (tc_5 (List.mem_of_getElem? (i := 124) rfl)) rfl
theorem q5_125 : Cond.static yX1_ofFloats ∈ lw_all := lw_in (tc_5 (List.mem_of_getElem? (i := 125) rfl)) rfl
theorem q5_126 : Cond.code yX1_ofFloats cX1_ofFloats 3 (some .float) ∈ lw_all := lw_in (tc_5 (List.mem_of_getElem? (i := 126) rfl)) rfl
theorem q5_130 : Cond.methodLink RX1 216 yX1_workWholes ∈ lw_all := lw_in (tc_5 (List.mem_of_getElem? (i := 130) rfl)) rfl
theorem q5_132 : Cond.instanceMethod yX1_workWholes ∈ lw_all := lw_in (tc_5 (List.mem_of_getElem? (i := 132) rfl)) rfl
theorem q0_56 : Cond.selects RX1 yX1_workWholes yX1_workWholes ∈ lw_all := lw_in (tc_0 (List.mem_of_getElem? (i := 56) rfl)) rfl
theorem q5_133 : Cond.code yX1_workWholes cX1_workWholes 6 (some .long) ∈ lw_all := lw_in (tc_5 (List.mem_of_getElem? (i := 133) rfl)) rfl
theorem q5_98 : Cond.methodLink RX1 212 yX1_workReals ∈ lw_all := lw_in (tc_5 (List.mem_of_getElem? (i := 98) rfl)) rfl
theorem q5_100 : Cond.instanceMethod yX1_workReals ∈ lw_all := lw_in (tc_5 (List.mem_of_getElem? (i := 100) rfl)) rfl
theorem q0_54 : Cond.selects RX1 yX1_workReals yX1_workReals ∈ lw_all := lw_in (tc_0 (List.mem_of_getElem? (i := 54) rfl)) rfl
theorem q5_101 : Cond.code yX1_workReals cX1_workReals 9 (some .double) ∈ lw_all := lw_in (tc_5 (List.mem_of_getElem? (i := 101) rfl)) rfl
theorem q5_92 : Cond.methodLink RX1 202 yJ13_compare_74951 ∈ lw_all := lw_in (tc_5 (List.mem_of_getElem? (i := 92) rfl)) rfl
theorem q5_93 : Cond.static yJ13_compare_74951 ∈ lw_all := lw_in (tc_5 (List.mem_of_getElem? (i := 93) rfl)) rfl
theorem q1_23 : Cond.initialized RJ13 ∈ lw_all := lw_in (tc_1 (List.mem_of_getElem? (i := 23) rfl)) rfl
theorem q5_94 : Cond.code yJ13_compare_74951 cJ13_compare_74951 4 (some .int) ∈ lw_all := lw_in (tc_5 (List.mem_of_getElem? (i := 94) rfl)) rfl
theorem q5_95 : Cond.methodLink RX1 208 yX1_holds ∈ lw_all := lw_in (tc_5 (List.mem_of_getElem? (i := 95) rfl)) rfl
theorem q5_96 : Cond.static yX1_holds ∈ lw_all := lw_in (tc_5 (List.mem_of_getElem? (i := 96) rfl)) rfl
theorem q5_97 : Cond.code yX1_holds cX1_holds 2 (some .boolean) ∈ lw_all := lw_in (tc_5 (List.mem_of_getElem? (i := 97) rfl)) rfl
theorem q5_89 : Cond.methodLink RX1 198 yX1_orderOf ∈ lw_all := lw_in (tc_5 (List.mem_of_getElem? (i := 89) rfl)) rfl
theorem q5_90 : Cond.static yX1_orderOf ∈ lw_all := lw_in (tc_5 (List.mem_of_getElem? (i := 90) rfl)) rfl
theorem q5_91 : Cond.code yX1_orderOf cX1_orderOf 4 (some .int) ∈ lw_all := lw_in (tc_5 (List.mem_of_getElem? (i := 91) rfl)) rfl
theorem q5_36 : Cond.methodLink RX1 102 yX0_beginOf ∈ lw_all := lw_in (tc_5 (List.mem_of_getElem? (i := 36) rfl)) rfl
theorem q5_37 : Cond.methodLink RX1 106 yX0_endOf ∈ lw_all := lw_in (tc_5 (List.mem_of_getElem? (i := 37) rfl)) rfl
theorem q1_209 : Cond.fieldLinkNest RX1 109 "TurningHall$Code" "op" "[I" "TurningHall" ∈ lw_tbl := tc_1 (List.mem_of_getElem? (i := 209) rfl)
theorem q1_213 : Cond.fieldLinkNest RX1 112 "TurningHall$Code" "place" "[I" "TurningHall" ∈ lw_tbl := tc_1 (List.mem_of_getElem? (i := 213) rfl)
theorem q1_146 : Cond.fieldLink RX1 26 "TurningHall$Machine" "jamPlace" "I" ∈ lw_all := lw_in (tc_1 (List.mem_of_getElem? (i := 146) rfl)) rfl
theorem q1_232 : Cond.fieldLinkNest RX1 115 "TurningHall$Code" "whole" "[J" "TurningHall" ∈ lw_tbl := tc_1 (List.mem_of_getElem? (i := 232) rfl)
theorem q1_235 : Cond.fieldLinkNest RX1 116 "TurningHall$Code" "real" "[D" "TurningHall" ∈ lw_tbl := tc_1 (List.mem_of_getElem? (i := 235) rfl)
theorem q1_224 : Cond.fieldLinkNest RX1 140 "TurningHall$Code" "right" "[I" "TurningHall" ∈ lw_tbl := tc_1 (List.mem_of_getElem? (i := 224) rfl)
theorem q5_85 : Cond.methodLink RX1 156 yX1_workTwo ∈ lw_all := lw_in (tc_5 (List.mem_of_getElem? (i := 85) rfl)) rfl
theorem q5_87 : Cond.instanceMethod yX1_workTwo ∈ lw_all := lw_in (tc_5 (List.mem_of_getElem? (i := 87) rfl)) rfl
theorem q0_53 : Cond.selects RX1 yX1_workTwo yX1_workTwo ∈ lw_all := lw_in (tc_0 (List.mem_of_getElem? (i := 53) rfl)) rfl
theorem q5_88 : Cond.code yX1_workTwo cX1_workTwo 10 none ∈ lw_all := lw_in (tc_5 (List.mem_of_getElem? (i := 88) rfl)) rfl
theorem q5_42 : Cond.methodLink RX1 132 yX1_pushThing ∈ lw_all := lw_in (tc_5 (List.mem_of_getElem? (i := 42) rfl)) rfl
theorem q5_44 : Cond.instanceMethod yX1_pushThing ∈ lw_all := lw_in (tc_5 (List.mem_of_getElem? (i := 44) rfl)) rfl
theorem q0_48 : Cond.selects RX1 yX1_pushThing yX1_pushThing ∈ lw_all := lw_in (tc_0 (List.mem_of_getElem? (i := 48) rfl)) rfl
theorem q5_45 : Cond.code yX1_pushThing cX1_pushThing 3 none ∈ lw_all := lw_in (tc_5 (List.mem_of_getElem? (i := 45) rfl)) rfl
theorem q1_90 : Cond.fieldLinkNest RX1 125 "TurningHall$State" "step" "D" "TurningHall" ∈ lw_tbl := tc_1 (List.mem_of_getElem? (i := 90) rfl)
theorem q1_86 : Cond.fieldLinkNest RX1 121 "TurningHall$State" "ticks" "J" "TurningHall" ∈ lw_tbl := tc_1 (List.mem_of_getElem? (i := 86) rfl)
theorem q5_63 : Cond.methodLink RX1 153 yX1_workOne ∈ lw_all := lw_in (tc_5 (List.mem_of_getElem? (i := 63) rfl)) rfl
theorem q5_65 : Cond.instanceMethod yX1_workOne ∈ lw_all := lw_in (tc_5 (List.mem_of_getElem? (i := 65) rfl)) rfl
theorem q0_52 : Cond.selects RX1 yX1_workOne yX1_workOne ∈ lw_all := lw_in (tc_0 (List.mem_of_getElem? (i := 52) rfl)) rfl
theorem q5_66 : Cond.code yX1_workOne cX1_workOne 7 none ∈ lw_all := lw_in (tc_5 (List.mem_of_getElem? (i := 66) rfl)) rfl
theorem q5_59 : Cond.methodLink RX1 146 yX1_takeTooth ∈ lw_all := lw_in (tc_5 (List.mem_of_getElem? (i := 59) rfl)) rfl
theorem q5_61 : Cond.instanceMethod yX1_takeTooth ∈ lw_all := lw_in (tc_5 (List.mem_of_getElem? (i := 61) rfl)) rfl
theorem q0_51 : Cond.selects RX1 yX1_takeTooth yX1_takeTooth ∈ lw_all := lw_in (tc_0 (List.mem_of_getElem? (i := 51) rfl)) rfl
theorem q5_62 : Cond.code yX1_takeTooth cX1_takeTooth 6 none ∈ lw_all := lw_in (tc_5 (List.mem_of_getElem? (i := 62) rfl)) rfl
theorem q5_46 : Cond.methodLink RX1 136 yX1_skip ∈ lw_all := lw_in (tc_5 (List.mem_of_getElem? (i := 46) rfl)) rfl
theorem q5_48 : Cond.instanceMethod yX1_skip ∈ lw_all := lw_in (tc_5 (List.mem_of_getElem? (i := 48) rfl)) rfl
theorem q0_49 : Cond.selects RX1 yX1_skip yX1_skip ∈ lw_all := lw_in (tc_0 (List.mem_of_getElem? (i := 49) rfl)) rfl
theorem q5_49 : Cond.code yX1_skip cX1_skip 7 (some .int) ∈ lw_all := lw_in (tc_5 (List.mem_of_getElem? (i := 49) rfl)) rfl
theorem q2_80 : Cond.fieldLinkNest RX1 37 "TurningHall$Plan" "things" "I" "TurningHall" ∈ lw_tbl := tc_2 (List.mem_of_getElem? (i := 80) rfl)
theorem q2_103 : Cond.fieldLinkNest RX1 42 "TurningHall$Plan" "first" "[I" "TurningHall" ∈ lw_tbl := tc_2 (List.mem_of_getElem? (i := 103) rfl)
theorem q2_69 : Cond.fieldLinkNest RX1 46 "TurningHall$Plan" "code" "LTurningHall$Code;" "TurningHall" ∈ lw_tbl := tc_2 (List.mem_of_getElem? (i := 69) rfl)
theorem q5_32 : Cond.methodLink RX1 50 yX1_run ∈ lw_all := lw_in (tc_5 (List.mem_of_getElem? (i := 32) rfl)) rfl
theorem q5_33 : Cond.instanceMethod yX1_run ∈ lw_all := lw_in (tc_5 (List.mem_of_getElem? (i := 33) rfl)) rfl
theorem q5_34 : Cond.selects RX1 yX1_run yX1_run ∈ lw_all := lw_in (tc_5 (List.mem_of_getElem? (i := 34) rfl)) rfl
theorem q5_35 : Cond.code yX1_run cX1_run 9 (some .boolean) ∈ lw_all := lw_in (tc_5 (List.mem_of_getElem? (i := 35) rfl)) rfl
theorem q5_144 : Cond.methodLink RX1 66 yX9_noteJam ∈ lw_all := lw_in (tc_5 (List.mem_of_getElem? (i := 144) rfl)) rfl
theorem q5_145 : Cond.instanceMethod yX9_noteJam ∈ lw_all := lw_in (tc_5 (List.mem_of_getElem? (i := 145) rfl)) rfl
theorem q5_146 : Cond.selects RX9 yX9_noteJam yX9_noteJam ∈ lw_all := lw_in (tc_5 (List.mem_of_getElem? (i := 146) rfl)) rfl
theorem q5_147 : Cond.code yX9_noteJam cX9_noteJam 4 none ∈ lw_all := lw_in (tc_5 (List.mem_of_getElem? (i := 147) rfl)) rfl
theorem q2_21 : Cond.fieldLinkNest RX1 54 "TurningHall$Code" "result" "[I" "TurningHall" ∈ lw_tbl := tc_2 (List.mem_of_getElem? (i := 21) rfl)
theorem q2_95 : Cond.fieldLinkNest RX1 59 "TurningHall$Plan" "sorts" "[I" "TurningHall" ∈ lw_tbl := tc_2 (List.mem_of_getElem? (i := 95) rfl)
theorem q5_140 : Cond.methodLink RX1 62 yX1_store ∈ lw_all := lw_in (tc_5 (List.mem_of_getElem? (i := 140) rfl)) rfl
theorem q5_142 : Cond.instanceMethod yX1_store ∈ lw_all := lw_in (tc_5 (List.mem_of_getElem? (i := 142) rfl)) rfl
theorem q0_57 : Cond.selects RX1 yX1_store yX1_store ∈ lw_all := lw_in (tc_0 (List.mem_of_getElem? (i := 57) rfl)) rfl
theorem q5_143 : Cond.code yX1_store cX1_store 4 none ∈ lw_all := lw_in (tc_5 (List.mem_of_getElem? (i := 143) rfl)) rfl
theorem q5_236 : Cond.methodLink RX1 83 yX9_beginTick ∈ lw_all := lw_in (tc_5 (List.mem_of_getElem? (i := 236) rfl)) rfl
theorem q5_237 : Cond.instanceMethod yX9_beginTick ∈ lw_all := lw_in (tc_5 (List.mem_of_getElem? (i := 237) rfl)) rfl
theorem q5_238 : Cond.selects RX9 yX9_beginTick yX9_beginTick ∈ lw_all := lw_in (tc_5 (List.mem_of_getElem? (i := 238) rfl)) rfl
theorem q5_239 : Cond.code yX9_beginTick cX9_beginTick 2 none ∈ lw_all := lw_in (tc_5 (List.mem_of_getElem? (i := 239) rfl)) rfl
theorem q2_86 : Cond.fieldLinkNest RX1 86 "TurningHall$Plan" "bells" "I" "TurningHall" ∈ lw_tbl := tc_2 (List.mem_of_getElem? (i := 86) rfl)
theorem q2_109 : Cond.fieldLinkNest RX1 89 "TurningHall$Plan" "order" "[I" "TurningHall" ∈ lw_tbl := tc_2 (List.mem_of_getElem? (i := 109) rfl)
theorem q2_106 : Cond.fieldLinkNest RX1 92 "TurningHall$Plan" "turning" "[I" "TurningHall" ∈ lw_tbl := tc_2 (List.mem_of_getElem? (i := 106) rfl)
theorem q6_2 : Cond.methodLink RX1 95 yX9_noteStrike ∈ lw_all := lw_in (tc_6 (List.mem_of_getElem? (i := 2) rfl)) rfl
theorem q6_3 : Cond.instanceMethod yX9_noteStrike ∈ lw_all := lw_in (tc_6 (List.mem_of_getElem? (i := 3) rfl)) rfl
theorem q6_4 : Cond.selects RX9 yX9_noteStrike yX9_noteStrike ∈ lw_all := lw_in (tc_6 (List.mem_of_getElem? (i := 4) rfl)) rfl
theorem q6_5 : Cond.code yX9_noteStrike cX9_noteStrike 2 none ∈ lw_all := lw_in (tc_6 (List.mem_of_getElem? (i := 5) rfl)) rfl
/-! ### J13_compare_74951 -/
theorem dJ13_compare_74951_0 : decode cJ13_compare_74951 0 = .ok (.lload_n 0, 1) := by decide +kernel
theorem dJ13_compare_74951_1 : decode cJ13_compare_74951 1 = .ok (.lload_n 2, 1) := by decide +kernel
theorem dJ13_compare_74951_2 : decode cJ13_compare_74951 2 = .ok (.lcmp, 1) := by decide +kernel
theorem dJ13_compare_74951_3 : decode cJ13_compare_74951 3 = .ok (.ifCond .ge 7, 3) := by decide +kernel
theorem dJ13_compare_74951_6 : decode cJ13_compare_74951 6 = .ok (.iconst (-1), 1) := by decide +kernel
theorem dJ13_compare_74951_7 : decode cJ13_compare_74951 7 = .ok (.goto 14, 3) := by decide +kernel
theorem dJ13_compare_74951_10 : decode cJ13_compare_74951 10 = .ok (.lload_n 0, 1) := by decide +kernel
theorem dJ13_compare_74951_11 : decode cJ13_compare_74951 11 = .ok (.lload_n 2, 1) := by decide +kernel
theorem dJ13_compare_74951_12 : decode cJ13_compare_74951 12 = .ok (.lcmp, 1) := by decide +kernel
theorem dJ13_compare_74951_13 : decode cJ13_compare_74951 13 = .ok (.ifCond .ne 7, 3) := by decide +kernel
theorem dJ13_compare_74951_16 : decode cJ13_compare_74951 16 = .ok (.iconst 0, 1) := by decide +kernel
theorem dJ13_compare_74951_17 : decode cJ13_compare_74951 17 = .ok (.goto 4, 3) := by decide +kernel
theorem dJ13_compare_74951_20 : decode cJ13_compare_74951 20 = .ok (.iconst 1, 1) := by decide +kernel
theorem dJ13_compare_74951_21 : decode cJ13_compare_74951 21 = .ok (.ireturn, 1) := by decide +kernel
abbrev R_J13_compare_74951 : Room := ({ frames := 0, cells := 0, slots := 0, locals := 0 } : Room)
def f_J13_compare_74951 (x0 : Int64) (x1 : Int64) : Option (Int32) :=
  if x1 ≤ x0 then (if x0 = x1 then (some (0 : Int32)) else (some (1 : Int32))) else (some (-1 : Int32))
set_option maxHeartbeats 4000000 in
set_option maxRecDepth 100000 in
theorem c_J13_compare_74951 (l : Launch) (D : Dx) (x0 : Int64) (x1 : Int64) (q : Int32) (hF : f_J13_compare_74951 x0 x1 = some q) (sz : Nat) : Met l yJ13_compare_74951 (ws_ yJ13_compare_74951 cJ13_compare_74951 4 (some .int)) R_J13_compare_74951 (PC D ([]) [.long x0, .long x1] ([]) sz) (QI D (va_A ([]) sz) ([]) q) 0 0 (va_A ([]) sz) := by
  refine Met.ofW (cc := cJ13_compare_74951) (maxL := 4) (ret := (some .int)) (by decide) rfl ?_
  intro p e s m args below meth c s₁ B hml hv
  obtain ⟨rfl, hsz, hP, hK, hD, hN⟩ := hv
  subst hsz
  have C : Cx p s m _ meth c cJ13_compare_74951 (some .int) 4 RJ13 lw_all := Cx_of B hml
  have X := Hx_start hP hK hD hN
  obtain ⟨hx, hb, hr, -, hown, hts, hlk⟩ := id C
  generalize va_A ([]) s.heap.size = A at X ⊢
  have hl := lv_entry ([.long x0, .long x1]) (n := 4) (Nat.le_of_ble_eq_true rfl)
  rw [lg_entry_eq]
  generalize (lg_sl ([.long x0, .long x1]) ++ List.replicate (4 - (lg_sl ([.long x0, .long x1])).length) Slot.unset).toArray = ls at hl ⊢
  have hl : lv_has ls 4 [(0, .long x0), (2, .long x1)] := hl
  unfold f_J13_compare_74951 at hF
  refine lv_lload_n hx hb dJ13_compare_74951_0 rfl (lv_at hl 0 rfl) ?_
  refine lv_lload_n hx hb dJ13_compare_74951_1 rfl (lv_at hl 1 rfl) ?_
  refine W.lcmp hx hb dJ13_compare_74951_2 ?_
  refine lv_if_ge (tgt := 10) hx hb dJ13_compare_74951_3 (by decide) (fun c => ?_) (fun c => ?_)
  · have c := (lg_cmp_ge _ _).mp c
    replace hF := iT c hF
    refine lv_lload_n hx hb dJ13_compare_74951_10 rfl (lv_at hl 0 rfl) ?_
    refine lv_lload_n hx hb dJ13_compare_74951_11 rfl (lv_at hl 1 rfl) ?_
    refine W.lcmp hx hb dJ13_compare_74951_12 ?_
    refine lv_if_ne (tgt := 20) hx hb dJ13_compare_74951_13 (by decide) (fun c => ?_) (fun c => ?_)
    · have c := fun h => c ((lg_cmp_eq _ _).mpr h)
      replace hF := iF c hF
      refine lv_iconst (v := (1 : Int32)) hx hb dJ13_compare_74951_20 (by decide) ?_
      have hq := Option.some.inj hF
      subst hq
      exact rt_i C X dJ13_compare_74951_21
    · have c := (lg_cmp_eq _ _).mp c
      replace hF := iT c hF
      refine lv_iconst (v := (0 : Int32)) hx hb dJ13_compare_74951_16 (by decide) ?_
      refine lv_goto (tgt := 21) hx hb dJ13_compare_74951_17 (by decide) ?_
      have hq := Option.some.inj hF
      subst hq
      exact rt_i C X dJ13_compare_74951_21
  · have c := fun h => c ((lg_cmp_ge _ _).mpr h)
    replace hF := iF c hF
    refine lv_iconst (v := (-1 : Int32)) hx hb dJ13_compare_74951_6 (by decide) ?_
    refine lv_goto (tgt := 21) hx hb dJ13_compare_74951_7 (by decide) ?_
    have hq := Option.some.inj hF
    subst hq
    exact rt_i C X dJ13_compare_74951_21

/-! ### X1_push -/
theorem dX1_push_0 : decode cX1_push 0 = .ok (.aload_n 0, 1) := by decide +kernel
theorem dX1_push_1 : decode cX1_push 1 = .ok (.getfield 19, 3) := by decide +kernel
theorem dX1_push_4 : decode cX1_push 4 = .ok (.sipush 512, 3) := by decide +kernel
theorem dX1_push_7 : decode cX1_push 7 = .ok (.if_icmp .ge 33, 3) := by decide +kernel
theorem dX1_push_10 : decode cX1_push 10 = .ok (.aload_n 0, 1) := by decide +kernel
theorem dX1_push_11 : decode cX1_push 11 = .ok (.getfield 9, 3) := by decide +kernel
theorem dX1_push_14 : decode cX1_push 14 = .ok (.aload_n 0, 1) := by decide +kernel
theorem dX1_push_15 : decode cX1_push 15 = .ok (.getfield 19, 3) := by decide +kernel
theorem dX1_push_18 : decode cX1_push 18 = .ok (.lload_n 1, 1) := by decide +kernel
theorem dX1_push_19 : decode cX1_push 19 = .ok (.lastore, 1) := by decide +kernel
theorem dX1_push_20 : decode cX1_push 20 = .ok (.aload_n 0, 1) := by decide +kernel
theorem dX1_push_21 : decode cX1_push 21 = .ok (.getfield 15, 3) := by decide +kernel
theorem dX1_push_24 : decode cX1_push 24 = .ok (.aload_n 0, 1) := by decide +kernel
theorem dX1_push_25 : decode cX1_push 25 = .ok (.getfield 19, 3) := by decide +kernel
theorem dX1_push_28 : decode cX1_push 28 = .ok (.dload_n 3, 1) := by decide +kernel
theorem dX1_push_29 : decode cX1_push 29 = .ok (.dastore, 1) := by decide +kernel
theorem dX1_push_30 : decode cX1_push 30 = .ok (.aload_n 0, 1) := by decide +kernel
theorem dX1_push_31 : decode cX1_push 31 = .ok (.dup, 1) := by decide +kernel
theorem dX1_push_32 : decode cX1_push 32 = .ok (.getfield 19, 3) := by decide +kernel
theorem dX1_push_35 : decode cX1_push 35 = .ok (.iconst 1, 1) := by decide +kernel
theorem dX1_push_36 : decode cX1_push 36 = .ok (.iadd, 1) := by decide +kernel
theorem dX1_push_37 : decode cX1_push 37 = .ok (.putfield 19, 3) := by decide +kernel
theorem dX1_push_40 : decode cX1_push 40 = .ok (.return_, 1) := by decide +kernel
abbrev R_X1_push : Room := ({ frames := 0, cells := 0, slots := 0, locals := 0 } : Room)
def f_X1_push (gT : Gs) (x0 : Int64) (x1 : UInt64) : Option (Gs) :=
  if (512 : Int32) ≤ (gI gT 4) then (some gT) else (grd (inB (gI gT 4) 512) (grd (inB (gI gT 4) 512) (some (sI (sDA (sLA gT 2 (vp_updL (gLA gT 2) (gI gT 4).toNatClampNeg x0)) 3 (vf_upd (gDA gT 3) (gI gT 4).toNatClampNeg x1)) 4 ((gI gT 4) + (1 : Int32))))))
set_option maxHeartbeats 4000000 in
set_option maxRecDepth 100000 in
theorem c_X1_push (l : Launch) (D : Dx) (hT : Nat) (aT : Nat → Nat) (yT : Nat → ClassId) (gT : Gs) (x0 : Int64) (x1 : UInt64) (q : Gs) (hF : f_X1_push gT x0 x1 = some q) (sz : Nat) : Met l yX1_push (ws_ yX1_push cX1_push 5 none) R_X1_push (PC D (tX1 yT) [.ref hT, .long x0, .double x1] (wX1 hT aT yT gT) sz) (QV D (va_A (wX1 hT aT yT gT) sz) (wX1 hT aT yT q)) 0 0 (va_A (wX1 hT aT yT gT) sz) := by
  refine Met.ofW (cc := cX1_push) (maxL := 5) (ret := none) (by decide) rfl ?_
  intro p e s m args below meth c s₁ B hml hv
  obtain ⟨rfl, hsz, hP, hK, hD, hN⟩ := hv
  subst hsz
  have C : Cx p s m _ meth c cX1_push none 5 RX1 lw_all := Cx_of B hml
  have X := Hx_start hP hK hD hN
  obtain ⟨hx, hb, hr, -, hown, hts, hlk⟩ := id C
  generalize va_A (wX1 hT aT yT gT) s.heap.size = A at X ⊢
  have hl := lv_entry ([.ref hT, .long x0, .double x1]) (n := 5) (Nat.le_of_ble_eq_true rfl)
  rw [lg_entry_eq]
  generalize (lg_sl ([.ref hT, .long x0, .double x1]) ++ List.replicate (5 - (lg_sl ([.ref hT, .long x0, .double x1])).length) Slot.unset).toArray = ls at hl ⊢
  have hl : lv_has ls 5 [(0, .ref hT), (1, .long x0), (3, .double x1)] := hl
  unfold f_X1_push at hF
  refine lv_aload_n hx hb dX1_push_0 rfl (lv_at hl 0 rfl) ?_
  refine va_get (D := D.1) (ci := 1) (v := .int (gI gT 4)) (C := RX1) (T := TX1) (N := 7) hx hb hts wi_X1 hown X.1 X.2.1 0 rfl rfl 4 (by decide) (hts _ q1_143) (fun _ h9 => h9) (fl_get (by decide)) dX1_push_1 ?_
  refine lv_sipush (v := (512 : Int32)) hx hb dX1_push_4 (by decide) ?_
  refine lv_icmp_ge (tgt := 40) hx hb dX1_push_7 (by decide) (fun c => ?_) (fun c => ?_)
  · replace hF := iT c hF
    have hq := Option.some.inj hF
    subst hq
    exact rt_v C X dX1_push_40
  · replace hF := iF c hF
    refine lv_aload_n hx hb dX1_push_10 rfl (lv_at hl 0 rfl) ?_
    refine va_get (D := D.1) (ci := 1) (v := .ref (aT 2)) (C := RX1) (T := TX1) (N := 7) hx hb hts wi_X1 hown X.1 X.2.1 0 rfl rfl 2 (by decide) (hts _ q1_139) (fun _ h9 => h9) (fl_get (by decide)) dX1_push_11 ?_
    refine lv_aload_n hx hb dX1_push_14 rfl (lv_at hl 0 rfl) ?_
    refine va_get (D := D.1) (ci := 1) (v := .int (gI gT 4)) (C := RX1) (T := TX1) (N := 7) hx hb hts wi_X1 hown X.1 X.2.1 0 rfl rfl 4 (by decide) (hts _ q1_143) (fun _ h9 => h9) (fl_get (by decide)) dX1_push_15 ?_
    refine lv_lload_n hx hb dX1_push_18 rfl (lv_at hl 1 rfl) ?_
    obtain ⟨h_1, hF⟩ := grd_some hF
    refine va_last (D := D.1) (f := gLA gT 2) hx hb X.1 X.2.1 X.2.2.1 X.2.2.2.1 1 0 rfl rfl (inB_ok h_1) dX1_push_19 (fun H locs hP hD hS => ?_)
    have X : Hx D (tX1 yT) A s H locs (wX1 hT aT yT (sLA gT 2 (vp_updL (gLA gT 2) (gI gT 4).toNatClampNeg x0))) := Hx_set X (wG_sLA (i := 0) (k := 2) ndX1 rfl rfl) hP hD hS
    refine lv_aload_n hx hb dX1_push_20 rfl (lv_at hl 0 rfl) ?_
    refine va_get (D := D.1) (ci := 1) (v := .ref (aT 3)) (C := RX1) (T := TX1) (N := 7) hx hb hts wi_X1 hown X.1 X.2.1 0 rfl rfl 3 (by decide) (hts _ q1_141) (fun _ h9 => h9) (fl_get (by decide)) dX1_push_21 ?_
    refine lv_aload_n hx hb dX1_push_24 rfl (lv_at hl 0 rfl) ?_
    refine va_get (D := D.1) (ci := 1) (v := .int (gI gT 4)) (C := RX1) (T := TX1) (N := 7) hx hb hts wi_X1 hown X.1 X.2.1 0 rfl rfl 4 (by decide) (hts _ q1_143) (fun _ h9 => h9) (fl_get (by decide)) dX1_push_25 ?_
    refine lv_dload_n hx hb dX1_push_28 rfl (lv_at hl 2 rfl) ?_
    obtain ⟨h_2, hF⟩ := grd_some hF
    refine va_dast (D := D.1) (f := gDA gT 3) hx hb X.1 X.2.1 X.2.2.1 X.2.2.2.1 2 1 rfl rfl (inB_ok h_2) dX1_push_29 (fun H locs hP hD hS => ?_)
    have X : Hx D (tX1 yT) A s H locs (wX1 hT aT yT (sDA (sLA gT 2 (vp_updL (gLA gT 2) (gI gT 4).toNatClampNeg x0)) 3 (vf_upd (gDA gT 3) (gI gT 4).toNatClampNeg x1))) := Hx_set X (wG_sDA (i := 1) (k := 3) ndX1 rfl rfl) hP hD hS
    refine lv_aload_n hx hb dX1_push_30 rfl (lv_at hl 0 rfl) ?_
    refine lv_dup hx hb dX1_push_31 rfl ?_
    refine va_get (D := D.1) (ci := 1) (v := .int (gI gT 4)) (C := RX1) (T := TX1) (N := 7) hx hb hts wi_X1 hown X.1 X.2.1 0 rfl rfl 4 (by decide) (hts _ q1_143) (fun _ h9 => h9) (fl_get (by decide)) dX1_push_32 ?_
    refine lv_iconst (v := (1 : Int32)) hx hb dX1_push_35 (by decide) ?_
    refine lv_iadd hx hb dX1_push_36 ?_
    refine va_put (D := D.1) (ci := 1) (v := .int ((gI gT 4) + (1 : Int32))) (ty := .int) (C := RX1) (T := TX1) (N := 7) hx hb hts wi_X1 tyX1 tyX1_ok nmX1 hown X.1 X.2.1 X.2.2.1 X.2.2.2.1 0 rfl rfl 4 (by decide) (hts _ q1_143) (fun _ h9 => h9) rfl (by decide +kernel) rfl rfl (by rw [List.length_map, List.length_range]; decide) dX1_push_37 (fun H locs hP hD hS => ?_)
    have X : Hx D (tX1 yT) A s H locs (wX1 hT aT yT (sI (sDA (sLA gT 2 (vp_updL (gLA gT 2) (gI gT 4).toNatClampNeg x0)) 3 (vf_upd (gDA gT 3) (gI gT 4).toNatClampNeg x1)) 4 ((gI gT 4) + (1 : Int32)))) := Hx_set X (wG_sI (k := 4) rfl) hP hD hS
    have hq := Option.some.inj hF
    subst hq
    exact rt_v C X dX1_push_40

/-! ### X1_pushThing -/
theorem dX1_pushThing_0 : decode cX1_pushThing 0 = .ok (.iload_n 1, 1) := by decide +kernel
theorem dX1_pushThing_1 : decode cX1_pushThing 1 = .ok (.ifCond .lt 9, 3) := by decide +kernel
theorem dX1_pushThing_4 : decode cX1_pushThing 4 = .ok (.iload_n 1, 1) := by decide +kernel
theorem dX1_pushThing_5 : decode cX1_pushThing 5 = .ok (.bipush 40, 2) := by decide +kernel
theorem dX1_pushThing_7 : decode cX1_pushThing 7 = .ok (.if_icmp .lt 4, 3) := by decide +kernel
theorem dX1_pushThing_10 : decode cX1_pushThing 10 = .ok (.return_, 1) := by decide +kernel
theorem dX1_pushThing_11 : decode cX1_pushThing 11 = .ok (.iload_n 2, 1) := by decide +kernel
theorem dX1_pushThing_12 : decode cX1_pushThing 12 = .ok (.ifCond .eq 28, 3) := by decide +kernel
theorem dX1_pushThing_15 : decode cX1_pushThing 15 = .ok (.aload_n 0, 1) := by decide +kernel
theorem dX1_pushThing_16 : decode cX1_pushThing 16 = .ok (.aload_n 0, 1) := by decide +kernel
theorem dX1_pushThing_17 : decode cX1_pushThing 17 = .ok (.getfield 33, 3) := by decide +kernel
theorem dX1_pushThing_20 : decode cX1_pushThing 20 = .ok (.getfield 71, 3) := by decide +kernel
theorem dX1_pushThing_23 : decode cX1_pushThing 23 = .ok (.iload_n 1, 1) := by decide +kernel
theorem dX1_pushThing_24 : decode cX1_pushThing 24 = .ok (.laload, 1) := by decide +kernel
theorem dX1_pushThing_25 : decode cX1_pushThing 25 = .ok (.aload_n 0, 1) := by decide +kernel
theorem dX1_pushThing_26 : decode cX1_pushThing 26 = .ok (.getfield 33, 3) := by decide +kernel
theorem dX1_pushThing_29 : decode cX1_pushThing 29 = .ok (.getfield 77, 3) := by decide +kernel
theorem dX1_pushThing_32 : decode cX1_pushThing 32 = .ok (.iload_n 1, 1) := by decide +kernel
theorem dX1_pushThing_33 : decode cX1_pushThing 33 = .ok (.daload, 1) := by decide +kernel
theorem dX1_pushThing_34 : decode cX1_pushThing 34 = .ok (.invokevirtual 117, 3) := by decide +kernel
theorem dX1_pushThing_37 : decode cX1_pushThing 37 = .ok (.goto 25, 3) := by decide +kernel
theorem dX1_pushThing_40 : decode cX1_pushThing 40 = .ok (.aload_n 0, 1) := by decide +kernel
theorem dX1_pushThing_41 : decode cX1_pushThing 41 = .ok (.aload_n 0, 1) := by decide +kernel
theorem dX1_pushThing_42 : decode cX1_pushThing 42 = .ok (.getfield 33, 3) := by decide +kernel
theorem dX1_pushThing_45 : decode cX1_pushThing 45 = .ok (.getfield 74, 3) := by decide +kernel
theorem dX1_pushThing_48 : decode cX1_pushThing 48 = .ok (.iload_n 1, 1) := by decide +kernel
theorem dX1_pushThing_49 : decode cX1_pushThing 49 = .ok (.laload, 1) := by decide +kernel
theorem dX1_pushThing_50 : decode cX1_pushThing 50 = .ok (.aload_n 0, 1) := by decide +kernel
theorem dX1_pushThing_51 : decode cX1_pushThing 51 = .ok (.getfield 33, 3) := by decide +kernel
theorem dX1_pushThing_54 : decode cX1_pushThing 54 = .ok (.getfield 80, 3) := by decide +kernel
theorem dX1_pushThing_57 : decode cX1_pushThing 57 = .ok (.iload_n 1, 1) := by decide +kernel
theorem dX1_pushThing_58 : decode cX1_pushThing 58 = .ok (.daload, 1) := by decide +kernel
theorem dX1_pushThing_59 : decode cX1_pushThing 59 = .ok (.invokevirtual 117, 3) := by decide +kernel
theorem dX1_pushThing_62 : decode cX1_pushThing 62 = .ok (.return_, 1) := by decide +kernel
abbrev R_X1_pushThing : Room := ({ frames := 1, cells := 0, slots := 0, locals := 24 } : Room)
def f_X1_pushThing (gT : Gs) (gT_1 : Gs) (x0 : Int32) (x1 : Int32) : Option (Gs) :=
  if x0 < 0 then (some gT) else (if x0 < (40 : Int32) then (if x1 = 0 then (grd (inB x0 40) (grd (inB x0 40) (bnd (f_X1_push gT (gLA gT_1 0 x0.toNatClampNeg) (gDA gT_1 1 x0.toNatClampNeg)) (fun q_3 => some q_3)))) else (grd (inB x0 40) (grd (inB x0 40) (bnd (f_X1_push gT (gLA gT_1 2 x0.toNatClampNeg) (gDA gT_1 3 x0.toNatClampNeg)) (fun q_7 => some q_7))))) else (some gT))
set_option maxHeartbeats 4000000 in
set_option maxRecDepth 100000 in
theorem c_X1_pushThing (l : Launch) (D : Dx) (hT : Nat) (aT : Nat → Nat) (yT : Nat → ClassId) (aT_1 : Nat → Nat) (yT_1 : Nat → ClassId) (gT : Gs) (gT_1 : Gs) (x0 : Int32) (x1 : Int32) (q : Gs) (hF : f_X1_pushThing gT gT_1 x0 x1 = some q) (sz : Nat) : Met l yX1_pushThing (ws_ yX1_pushThing cX1_pushThing 3 none) R_X1_pushThing (PC D (tX1 yT ++ (tX9 yT_1)) [.ref hT, .int x0, .int x1] (wX1 hT aT yT gT ++ (wX9 (aT 1) aT_1 yT_1 gT_1)) sz) (QV D (va_A (wX1 hT aT yT gT ++ (wX9 (aT 1) aT_1 yT_1 gT_1)) sz) (wX1 hT aT yT q ++ (wX9 (aT 1) aT_1 yT_1 gT_1))) 0 0 (va_A (wX1 hT aT yT gT ++ (wX9 (aT 1) aT_1 yT_1 gT_1)) sz) := by
  refine Met.ofW (cc := cX1_pushThing) (maxL := 3) (ret := none) (by decide) rfl ?_
  intro p e s m args below meth c s₁ B hml hv
  obtain ⟨rfl, hsz, hP, hK, hD, hN⟩ := hv
  subst hsz
  have C : Cx p s m _ meth c cX1_pushThing none 3 RX1 lw_all := Cx_of B hml
  have X := Hx_start hP hK hD hN
  obtain ⟨hx, hb, hr, -, hown, hts, hlk⟩ := id C
  generalize va_A (wX1 hT aT yT gT ++ (wX9 (aT 1) aT_1 yT_1 gT_1)) s.heap.size = A at X ⊢
  have hl := lv_entry ([.ref hT, .int x0, .int x1]) (n := 3) (Nat.le_of_ble_eq_true rfl)
  rw [lg_entry_eq]
  generalize (lg_sl ([.ref hT, .int x0, .int x1]) ++ List.replicate (3 - (lg_sl ([.ref hT, .int x0, .int x1])).length) Slot.unset).toArray = ls at hl ⊢
  have hl : lv_has ls 3 [(0, .ref hT), (1, .int x0), (2, .int x1)] := hl
  unfold f_X1_pushThing at hF
  refine lv_iload_n hx hb dX1_pushThing_0 rfl (lv_at hl 1 rfl) ?_
  refine lv_if_lt (tgt := 10) hx hb dX1_pushThing_1 (by decide) (fun c => ?_) (fun c => ?_)
  · replace hF := iT c hF
    have hq := Option.some.inj hF
    subst hq
    exact rt_v C X dX1_pushThing_10
  · replace hF := iF c hF
    refine lv_iload_n hx hb dX1_pushThing_4 rfl (lv_at hl 1 rfl) ?_
    refine lv_bipush (v := (40 : Int32)) hx hb dX1_pushThing_5 (by decide) ?_
    refine lv_icmp_lt (tgt := 11) hx hb dX1_pushThing_7 (by decide) (fun c => ?_) (fun c => ?_)
    · replace hF := iT c hF
      refine lv_iload_n hx hb dX1_pushThing_11 rfl (lv_at hl 2 rfl) ?_
      refine lv_if_eq (tgt := 40) hx hb dX1_pushThing_12 (by decide) (fun c => ?_) (fun c => ?_)
      · replace hF := iT c hF
        refine lv_aload_n hx hb dX1_pushThing_40 rfl (lv_at hl 0 rfl) ?_
        refine lv_aload_n hx hb dX1_pushThing_41 rfl (lv_at hl 0 rfl) ?_
        refine va_get (D := D.1) (ci := 1) (v := .ref (aT 1)) (C := RX1) (T := TX1) (N := 7) hx hb hts wi_X1 hown X.1 X.2.1 0 rfl rfl 1 (by decide) (hts _ q1_138) (fun _ h9 => h9) (fl_get (by decide)) dX1_pushThing_42 ?_
        refine va_getN (D := D.1) (ci := 9) (v := .ref (aT_1 0)) (C := RX9) (T := TX9) (N := 17) hx hb hts wi_X9 hown X.1 X.2.1 3 rfl rfl 0 (by decide) (X.2.2.2.2.2.1.use q1_54 rfl) (fun _ h9 => h9) (fl_get (by decide)) dX1_pushThing_45 ?_
        refine lv_iload_n hx hb dX1_pushThing_48 rfl (lv_at hl 1 rfl) ?_
        obtain ⟨h_1, hF⟩ := grd_some hF
        refine va_lald (D := D.1) (f := gLA gT_1 0) hx hb X.1 X.2.1 4 2 rfl rfl (inB_ok h_1) dX1_pushThing_49 ?_
        refine lv_aload_n hx hb dX1_pushThing_50 rfl (lv_at hl 0 rfl) ?_
        refine va_get (D := D.1) (ci := 1) (v := .ref (aT 1)) (C := RX1) (T := TX1) (N := 7) hx hb hts wi_X1 hown X.1 X.2.1 0 rfl rfl 1 (by decide) (hts _ q1_138) (fun _ h9 => h9) (fl_get (by decide)) dX1_pushThing_51 ?_
        refine va_getN (D := D.1) (ci := 9) (v := .ref (aT_1 1)) (C := RX9) (T := TX9) (N := 17) hx hb hts wi_X9 hown X.1 X.2.1 3 rfl rfl 1 (by decide) (X.2.2.2.2.2.1.use q1_57 rfl) (fun _ h9 => h9) (fl_get (by decide)) dX1_pushThing_54 ?_
        refine lv_iload_n hx hb dX1_pushThing_57 rfl (lv_at hl 1 rfl) ?_
        obtain ⟨h_2, hF⟩ := grd_some hF
        refine va_dald (D := D.1) (f := gDA gT_1 1) hx hb X.1 X.2.1 5 3 rfl rfl (inB_ok h_2) dX1_pushThing_58 ?_
        obtain ⟨q_3, hc_4, hF⟩ := bnd_some hF
        refine cV_v (As := [.long (gLA gT_1 0 x0.toNatClampNeg), .double (gDA gT_1 1 x0.toNatClampNeg)]) (rest := []) C X (c_X1_push l D hT aT yT gT (gLA gT_1 0 x0.toNatClampNeg) (gDA gT_1 1 x0.toNatClampNeg) q_3 hc_4 _) (cwV 2 hts (good_V q5_38 q5_40 q0_47 q1_4 q5_41) rfl rfl rfl (by decide +kernel) ⟨Nat.le_of_ble_eq_true rfl, Nat.le_of_ble_eq_true rfl⟩) (va_recv X.1 X.2.1 (ci := 1) (q0 := 0) rfl rfl) (X.1.sub (tys' := tX1 yT) [0, 1] rfl) (X.2.1.sub (ws' := wX1 hT aT yT gT) [0, 1, 2] rfl) (X.2.2.1.sub (ws' := wX1 hT aT yT gT) [0, 1, 2] (by decide) rfl) (free_of (wC := wX1 hT aT yT gT) (isC := [0, 1, 2]) X rfl) hl.1 rfl rfl (Nat.le_of_ble_eq_true rfl) dX1_pushThing_59 ⟨Nat.le_of_ble_eq_true rfl, Nat.le_of_ble_eq_true rfl⟩ (fun t H1 locs1 ht hB hk hS => ?_)
        have X : Hx D (tX1 yT ++ (tX9 yT_1)) A s H1 locs1 (wX1 hT aT yT q_3 ++ (wX9 (aT 1) aT_1 yT_1 gT_1)) := Hx_after (isC := [0, 1, 2]) (isR := [3, 4, 5, 6, 7, 8, 9, 10, 11, 12, 13, 14, 15]) (pm := [13, 14, 15, 0, 1, 2, 3, 4, 5, 6, 7, 8, 9, 10, 11, 12]) (wr := wX9 (aT 1) aT_1 yT_1 gT_1) X ⟨rfl, rfl, by decide, by decide, rfl, by decide⟩ ht hB hk hS
        clear hk hS ht hB
        generalize H1 = H at X ⊢
        generalize locs1 = locs at X ⊢
        have hq := Option.some.inj hF
        subst hq
        exact rt_v C X dX1_pushThing_62
      · replace hF := iF c hF
        refine lv_aload_n hx hb dX1_pushThing_15 rfl (lv_at hl 0 rfl) ?_
        refine lv_aload_n hx hb dX1_pushThing_16 rfl (lv_at hl 0 rfl) ?_
        refine va_get (D := D.1) (ci := 1) (v := .ref (aT 1)) (C := RX1) (T := TX1) (N := 7) hx hb hts wi_X1 hown X.1 X.2.1 0 rfl rfl 1 (by decide) (hts _ q1_138) (fun _ h9 => h9) (fl_get (by decide)) dX1_pushThing_17 ?_
        refine va_getN (D := D.1) (ci := 9) (v := .ref (aT_1 2)) (C := RX9) (T := TX9) (N := 17) hx hb hts wi_X9 hown X.1 X.2.1 3 rfl rfl 2 (by decide) (X.2.2.2.2.2.1.use q1_60 rfl) (fun _ h9 => h9) (fl_get (by decide)) dX1_pushThing_20 ?_
        refine lv_iload_n hx hb dX1_pushThing_23 rfl (lv_at hl 1 rfl) ?_
        obtain ⟨h_5, hF⟩ := grd_some hF
        refine va_lald (D := D.1) (f := gLA gT_1 2) hx hb X.1 X.2.1 6 4 rfl rfl (inB_ok h_5) dX1_pushThing_24 ?_
        refine lv_aload_n hx hb dX1_pushThing_25 rfl (lv_at hl 0 rfl) ?_
        refine va_get (D := D.1) (ci := 1) (v := .ref (aT 1)) (C := RX1) (T := TX1) (N := 7) hx hb hts wi_X1 hown X.1 X.2.1 0 rfl rfl 1 (by decide) (hts _ q1_138) (fun _ h9 => h9) (fl_get (by decide)) dX1_pushThing_26 ?_
        refine va_getN (D := D.1) (ci := 9) (v := .ref (aT_1 3)) (C := RX9) (T := TX9) (N := 17) hx hb hts wi_X9 hown X.1 X.2.1 3 rfl rfl 3 (by decide) (X.2.2.2.2.2.1.use q1_63 rfl) (fun _ h9 => h9) (fl_get (by decide)) dX1_pushThing_29 ?_
        refine lv_iload_n hx hb dX1_pushThing_32 rfl (lv_at hl 1 rfl) ?_
        obtain ⟨h_6, hF⟩ := grd_some hF
        refine va_dald (D := D.1) (f := gDA gT_1 3) hx hb X.1 X.2.1 7 5 rfl rfl (inB_ok h_6) dX1_pushThing_33 ?_
        obtain ⟨q_7, hc_8, hF⟩ := bnd_some hF
        refine cV_v (As := [.long (gLA gT_1 2 x0.toNatClampNeg), .double (gDA gT_1 3 x0.toNatClampNeg)]) (rest := []) C X (c_X1_push l D hT aT yT gT (gLA gT_1 2 x0.toNatClampNeg) (gDA gT_1 3 x0.toNatClampNeg) q_7 hc_8 _) (cwV 2 hts (good_V q5_38 q5_40 q0_47 q1_4 q5_41) rfl rfl rfl (by decide +kernel) ⟨Nat.le_of_ble_eq_true rfl, Nat.le_of_ble_eq_true rfl⟩) (va_recv X.1 X.2.1 (ci := 1) (q0 := 0) rfl rfl) (X.1.sub (tys' := tX1 yT) [0, 1] rfl) (X.2.1.sub (ws' := wX1 hT aT yT gT) [0, 1, 2] rfl) (X.2.2.1.sub (ws' := wX1 hT aT yT gT) [0, 1, 2] (by decide) rfl) (free_of (wC := wX1 hT aT yT gT) (isC := [0, 1, 2]) X rfl) hl.1 rfl rfl (Nat.le_of_ble_eq_true rfl) dX1_pushThing_34 ⟨Nat.le_of_ble_eq_true rfl, Nat.le_of_ble_eq_true rfl⟩ (fun t H1 locs1 ht hB hk hS => ?_)
        have X : Hx D (tX1 yT ++ (tX9 yT_1)) A s H1 locs1 (wX1 hT aT yT q_7 ++ (wX9 (aT 1) aT_1 yT_1 gT_1)) := Hx_after (isC := [0, 1, 2]) (isR := [3, 4, 5, 6, 7, 8, 9, 10, 11, 12, 13, 14, 15]) (pm := [13, 14, 15, 0, 1, 2, 3, 4, 5, 6, 7, 8, 9, 10, 11, 12]) (wr := wX9 (aT 1) aT_1 yT_1 gT_1) X ⟨rfl, rfl, by decide, by decide, rfl, by decide⟩ ht hB hk hS
        clear hk hS ht hB
        generalize H1 = H at X ⊢
        generalize locs1 = locs at X ⊢
        refine lv_goto (tgt := 62) hx hb dX1_pushThing_37 (by decide) ?_
        have hq := Option.some.inj hF
        subst hq
        exact rt_v C X dX1_pushThing_62
    · replace hF := iF c hF
      have hq := Option.some.inj hF
      subst hq
      exact rt_v C X dX1_pushThing_10

/-! ### X1_become -/
theorem dX1_become_0 : decode cX1_become 0 = .ok (.iload_n 1, 1) := by decide +kernel
theorem dX1_become_1 : decode cX1_become 1 = .ok (.ifCond .lt 8, 3) := by decide +kernel
theorem dX1_become_4 : decode cX1_become 4 = .ok (.iload_n 2, 1) := by decide +kernel
theorem dX1_become_5 : decode cX1_become 5 = .ok (.iload_n 3, 1) := by decide +kernel
theorem dX1_become_6 : decode cX1_become 6 = .ok (.if_icmp .ne 4, 3) := by decide +kernel
theorem dX1_become_9 : decode cX1_become 9 = .ok (.return_, 1) := by decide +kernel
theorem dX1_become_10 : decode cX1_become 10 = .ok (.iload_n 3, 1) := by decide +kernel
theorem dX1_become_11 : decode cX1_become 11 = .ok (.bipush 6, 2) := by decide +kernel
theorem dX1_become_13 : decode cX1_become 13 = .ok (.if_icmp .ne 47, 3) := by decide +kernel
theorem dX1_become_16 : decode cX1_become 16 = .ok (.iload_n 2, 1) := by decide +kernel
theorem dX1_become_17 : decode cX1_become 17 = .ok (.bipush 7, 2) := by decide +kernel
theorem dX1_become_19 : decode cX1_become 19 = .ok (.if_icmp .ne 41, 3) := by decide +kernel
theorem dX1_become_22 : decode cX1_become 22 = .ok (.aload_n 0, 1) := by decide +kernel
theorem dX1_become_23 : decode cX1_become 23 = .ok (.getfield 15, 3) := by decide +kernel
theorem dX1_become_26 : decode cX1_become 26 = .ok (.iload_n 1, 1) := by decide +kernel
theorem dX1_become_27 : decode cX1_become 27 = .ok (.aload_n 0, 1) := by decide +kernel
theorem dX1_become_28 : decode cX1_become 28 = .ok (.getfield 15, 3) := by decide +kernel
theorem dX1_become_31 : decode cX1_become 31 = .ok (.iload_n 1, 1) := by decide +kernel
theorem dX1_become_32 : decode cX1_become 32 = .ok (.daload, 1) := by decide +kernel
theorem dX1_become_33 : decode cX1_become 33 = .ok (.d2f, 1) := by decide +kernel
theorem dX1_become_34 : decode cX1_become 34 = .ok (.f2d, 1) := by decide +kernel
theorem dX1_become_35 : decode cX1_become 35 = .ok (.dastore, 1) := by decide +kernel
theorem dX1_become_36 : decode cX1_become 36 = .ok (.aload_n 0, 1) := by decide +kernel
theorem dX1_become_37 : decode cX1_become 37 = .ok (.aload_n 0, 1) := by decide +kernel
theorem dX1_become_38 : decode cX1_become 38 = .ok (.getfield 15, 3) := by decide +kernel
theorem dX1_become_41 : decode cX1_become 41 = .ok (.iload_n 1, 1) := by decide +kernel
theorem dX1_become_42 : decode cX1_become 42 = .ok (.daload, 1) := by decide +kernel
theorem dX1_become_43 : decode cX1_become 43 = .ok (.invokestatic 175, 3) := by decide +kernel
theorem dX1_become_46 : decode cX1_become 46 = .ok (.ifCond .eq 7, 3) := by decide +kernel
theorem dX1_become_49 : decode cX1_become 49 = .ok (.iconst 3, 1) := by decide +kernel
theorem dX1_become_50 : decode cX1_become 50 = .ok (.goto 4, 3) := by decide +kernel
theorem dX1_become_53 : decode cX1_become 53 = .ok (.iconst 0, 1) := by decide +kernel
theorem dX1_become_54 : decode cX1_become 54 = .ok (.putfield 23, 3) := by decide +kernel
theorem dX1_become_57 : decode cX1_become 57 = .ok (.goto 127, 3) := by decide +kernel
theorem dX1_become_60 : decode cX1_become 60 = .ok (.iload_n 3, 1) := by decide +kernel
theorem dX1_become_61 : decode cX1_become 61 = .ok (.bipush 6, 2) := by decide +kernel
theorem dX1_become_63 : decode cX1_become 63 = .ok (.if_icmp .ne 20, 3) := by decide +kernel
theorem dX1_become_66 : decode cX1_become 66 = .ok (.aload_n 0, 1) := by decide +kernel
theorem dX1_become_67 : decode cX1_become 67 = .ok (.getfield 15, 3) := by decide +kernel
theorem dX1_become_70 : decode cX1_become 70 = .ok (.iload_n 1, 1) := by decide +kernel
theorem dX1_become_71 : decode cX1_become 71 = .ok (.aload_n 0, 1) := by decide +kernel
theorem dX1_become_72 : decode cX1_become 72 = .ok (.getfield 9, 3) := by decide +kernel
theorem dX1_become_75 : decode cX1_become 75 = .ok (.iload_n 1, 1) := by decide +kernel
theorem dX1_become_76 : decode cX1_become 76 = .ok (.laload, 1) := by decide +kernel
theorem dX1_become_77 : decode cX1_become 77 = .ok (.l2f, 1) := by decide +kernel
theorem dX1_become_78 : decode cX1_become 78 = .ok (.f2d, 1) := by decide +kernel
theorem dX1_become_79 : decode cX1_become 79 = .ok (.dastore, 1) := by decide +kernel
theorem dX1_become_80 : decode cX1_become 80 = .ok (.goto 104, 3) := by decide +kernel
theorem dX1_become_83 : decode cX1_become 83 = .ok (.iload_n 3, 1) := by decide +kernel
theorem dX1_become_84 : decode cX1_become 84 = .ok (.bipush 7, 2) := by decide +kernel
theorem dX1_become_86 : decode cX1_become 86 = .ok (.if_icmp .ne 34, 3) := by decide +kernel
theorem dX1_become_89 : decode cX1_become 89 = .ok (.aload_n 0, 1) := by decide +kernel
theorem dX1_become_90 : decode cX1_become 90 = .ok (.getfield 15, 3) := by decide +kernel
theorem dX1_become_93 : decode cX1_become 93 = .ok (.iload_n 1, 1) := by decide +kernel
theorem dX1_become_94 : decode cX1_become 94 = .ok (.iload_n 2, 1) := by decide +kernel
theorem dX1_become_95 : decode cX1_become 95 = .ok (.bipush 6, 2) := by decide +kernel
theorem dX1_become_97 : decode cX1_become 97 = .ok (.if_icmp .ne 12, 3) := by decide +kernel
theorem dX1_become_100 : decode cX1_become 100 = .ok (.aload_n 0, 1) := by decide +kernel
theorem dX1_become_101 : decode cX1_become 101 = .ok (.getfield 15, 3) := by decide +kernel
theorem dX1_become_104 : decode cX1_become 104 = .ok (.iload_n 1, 1) := by decide +kernel
theorem dX1_become_105 : decode cX1_become 105 = .ok (.daload, 1) := by decide +kernel
theorem dX1_become_106 : decode cX1_become 106 = .ok (.goto 10, 3) := by decide +kernel
theorem dX1_become_109 : decode cX1_become 109 = .ok (.aload_n 0, 1) := by decide +kernel
theorem dX1_become_110 : decode cX1_become 110 = .ok (.getfield 9, 3) := by decide +kernel
theorem dX1_become_113 : decode cX1_become 113 = .ok (.iload_n 1, 1) := by decide +kernel
theorem dX1_become_114 : decode cX1_become 114 = .ok (.laload, 1) := by decide +kernel
theorem dX1_become_115 : decode cX1_become 115 = .ok (.l2d, 1) := by decide +kernel
theorem dX1_become_116 : decode cX1_become 116 = .ok (.dastore, 1) := by decide +kernel
theorem dX1_become_117 : decode cX1_become 117 = .ok (.goto 67, 3) := by decide +kernel
theorem dX1_become_120 : decode cX1_become 120 = .ok (.iload_n 2, 1) := by decide +kernel
theorem dX1_become_121 : decode cX1_become 121 = .ok (.bipush 6, 2) := by decide +kernel
theorem dX1_become_123 : decode cX1_become 123 = .ok (.if_icmp .ge 22, 3) := by decide +kernel
theorem dX1_become_126 : decode cX1_become 126 = .ok (.aload_n 0, 1) := by decide +kernel
theorem dX1_become_127 : decode cX1_become 127 = .ok (.getfield 9, 3) := by decide +kernel
theorem dX1_become_130 : decode cX1_become 130 = .ok (.iload_n 1, 1) := by decide +kernel
theorem dX1_become_131 : decode cX1_become 131 = .ok (.iload_n 3, 1) := by decide +kernel
theorem dX1_become_132 : decode cX1_become 132 = .ok (.aload_n 0, 1) := by decide +kernel
theorem dX1_become_133 : decode cX1_become 133 = .ok (.getfield 9, 3) := by decide +kernel
theorem dX1_become_136 : decode cX1_become 136 = .ok (.iload_n 1, 1) := by decide +kernel
theorem dX1_become_137 : decode cX1_become 137 = .ok (.laload, 1) := by decide +kernel
theorem dX1_become_138 : decode cX1_become 138 = .ok (.invokestatic 181, 3) := by decide +kernel
theorem dX1_become_141 : decode cX1_become 141 = .ok (.lastore, 1) := by decide +kernel
theorem dX1_become_142 : decode cX1_become 142 = .ok (.goto 42, 3) := by decide +kernel
theorem dX1_become_145 : decode cX1_become 145 = .ok (.iload_n 3, 1) := by decide +kernel
theorem dX1_become_146 : decode cX1_become 146 = .ok (.iconst 5, 1) := by decide +kernel
theorem dX1_become_147 : decode cX1_become 147 = .ok (.if_icmp .ne 19, 3) := by decide +kernel
theorem dX1_become_150 : decode cX1_become 150 = .ok (.aload_n 0, 1) := by decide +kernel
theorem dX1_become_151 : decode cX1_become 151 = .ok (.getfield 9, 3) := by decide +kernel
theorem dX1_become_154 : decode cX1_become 154 = .ok (.iload_n 1, 1) := by decide +kernel
theorem dX1_become_155 : decode cX1_become 155 = .ok (.aload_n 0, 1) := by decide +kernel
theorem dX1_become_156 : decode cX1_become 156 = .ok (.getfield 15, 3) := by decide +kernel
theorem dX1_become_159 : decode cX1_become 159 = .ok (.iload_n 1, 1) := by decide +kernel
theorem dX1_become_160 : decode cX1_become 160 = .ok (.daload, 1) := by decide +kernel
theorem dX1_become_161 : decode cX1_become 161 = .ok (.d2l, 1) := by decide +kernel
theorem dX1_become_162 : decode cX1_become 162 = .ok (.lastore, 1) := by decide +kernel
theorem dX1_become_163 : decode cX1_become 163 = .ok (.goto 21, 3) := by decide +kernel
theorem dX1_become_166 : decode cX1_become 166 = .ok (.aload_n 0, 1) := by decide +kernel
theorem dX1_become_167 : decode cX1_become 167 = .ok (.getfield 9, 3) := by decide +kernel
theorem dX1_become_170 : decode cX1_become 170 = .ok (.iload_n 1, 1) := by decide +kernel
theorem dX1_become_171 : decode cX1_become 171 = .ok (.iload_n 3, 1) := by decide +kernel
theorem dX1_become_172 : decode cX1_become 172 = .ok (.aload_n 0, 1) := by decide +kernel
theorem dX1_become_173 : decode cX1_become 173 = .ok (.getfield 15, 3) := by decide +kernel
theorem dX1_become_176 : decode cX1_become 176 = .ok (.iload_n 1, 1) := by decide +kernel
theorem dX1_become_177 : decode cX1_become 177 = .ok (.daload, 1) := by decide +kernel
theorem dX1_become_178 : decode cX1_become 178 = .ok (.d2i, 1) := by decide +kernel
theorem dX1_become_179 : decode cX1_become 179 = .ok (.i2l, 1) := by decide +kernel
theorem dX1_become_180 : decode cX1_become 180 = .ok (.invokestatic 181, 3) := by decide +kernel
theorem dX1_become_183 : decode cX1_become 183 = .ok (.lastore, 1) := by decide +kernel
theorem dX1_become_184 : decode cX1_become 184 = .ok (.return_, 1) := by decide +kernel
abbrev R_X1_become : Room := ({ frames := 1, cells := 0, slots := 0, locals := 22 } : Room)
def b_X1_become_116 (gT : Gs) (s0 : UInt64) (s1 : Int32) : Option (Gs) :=
  grd (inB s1 512) (some (sDA gT 3 (vf_upd (gDA gT 3) s1.toNatClampNeg s0)))
def b_X1_become_60 (gT : Gs) (v1 : Int32) (v2 : Int32) (v3 : Int32) : Option (Gs) :=
  if v3 = (6 : Int32) then (grd (inB v1 512) (grd (n64 (FP.f2d (FP.l2f (gLA gT 2 v1.toNatClampNeg)))) (grd (inB v1 512) (some (sDA gT 3 (vf_upd (gDA gT 3) v1.toNatClampNeg (FP.f2d (FP.l2f (gLA gT 2 v1.toNatClampNeg))))))))) else (if v3 = (7 : Int32) then (if v2 = (6 : Int32) then (grd (inB v1 512) (b_X1_become_116 gT (gDA gT 3 v1.toNatClampNeg) v1)) else (grd (inB v1 512) (b_X1_become_116 gT (FP.l2d (gLA gT 2 v1.toNatClampNeg)) v1))) else (if (6 : Int32) ≤ v2 then (if v3 = (5 : Int32) then (grd (inB v1 512) (grd (inB v1 512) (some (sLA gT 2 (vp_updL (gLA gT 2) v1.toNatClampNeg (FP.d2l (gDA gT 3 v1.toNatClampNeg))))))) else (grd (inB v1 512) (bnd (f_X6_wholeOf v3 ((FP.d2i (gDA gT 3 v1.toNatClampNeg)).toInt64)) (fun q_2 => grd (inB v1 512) (some (sLA gT 2 (vp_updL (gLA gT 2) v1.toNatClampNeg q_2))))))) else (grd (inB v1 512) (bnd (f_X6_wholeOf v3 (gLA gT 2 v1.toNatClampNeg)) (fun q_8 => grd (inB v1 512) (some (sLA gT 2 (vp_updL (gLA gT 2) v1.toNatClampNeg q_8))))))))
def b_X1_become_54 (gT : Gs) (s0 : Int32) : Option (Gs) :=
  some (sI gT 5 s0)
def f_X1_become (gT : Gs) (x0 : Int32) (x1 : Int32) (x2 : Int32) : Option (Gs) :=
  if x0 < 0 then (some gT) else (if x1 = x2 then (some gT) else (if x2 = (6 : Int32) then (if x1 = (7 : Int32) then (grd (inB x0 512) (grd (n32 (FP.d2f (gDA gT 3 x0.toNatClampNeg))) (grd (n64 (FP.f2d (FP.d2f (gDA gT 3 x0.toNatClampNeg)))) (grd (inB x0 512) (grd (inB x0 512) (bnd (f_X6_isBeyond ((vf_upd (gDA gT 3) x0.toNatClampNeg (FP.f2d (FP.d2f (gDA gT 3 x0.toNatClampNeg)))) x0.toNatClampNeg)) (fun q_22 => if q_22 = 0 then (b_X1_become_54 (sDA gT 3 (vf_upd (gDA gT 3) x0.toNatClampNeg (FP.f2d (FP.d2f (gDA gT 3 x0.toNatClampNeg))))) (0 : Int32)) else (b_X1_become_54 (sDA gT 3 (vf_upd (gDA gT 3) x0.toNatClampNeg (FP.f2d (FP.d2f (gDA gT 3 x0.toNatClampNeg))))) (3 : Int32))))))))) else (b_X1_become_60 gT x0 x1 x2)) else (b_X1_become_60 gT x0 x1 x2)))
def S_X1_become_116 (l : Launch) (D : Dx) (hT : Nat) (aT : Nat → Nat) (yT : Nat → ClassId) (fn : Gs → UInt64 → Int32 → Option (Gs)) : Prop :=
  ∀ {p : Program} {e : Env} {s : State} {m : MethodId} {args : Array Value} {below : List Frame} {meth : Method} {c : Code} {H : Heap} {locs : List Loc} {A : Nat → Prop} {ls : Array Slot} {gT : Gs} {s0 : UInt64} {s1 : Int32} {q : Gs}, Cx p s m args meth c cX1_become none 4 RX1 lw_all → Hx D (tX1 yT) A s H locs (wX1 hT aT yT gT) → lv_has ls 4 [] → fn gT s0 s1 = some q → W p l e R_X1_become s m args below meth c H locs 0 0 (MQ below (QV D A (wX1 hT aT yT q)) args s 0 0 A) (F0 m 116 ls [.double s0, .int s1, .ref (aT 3)])
def S_X1_become_60 (l : Launch) (D : Dx) (hT : Nat) (aT : Nat → Nat) (yT : Nat → ClassId) (fn : Gs → Int32 → Int32 → Int32 → Option (Gs)) : Prop :=
  ∀ {p : Program} {e : Env} {s : State} {m : MethodId} {args : Array Value} {below : List Frame} {meth : Method} {c : Code} {H : Heap} {locs : List Loc} {A : Nat → Prop} {ls : Array Slot} {gT : Gs} {v1 : Int32} {v2 : Int32} {v3 : Int32} {q : Gs}, Cx p s m args meth c cX1_become none 4 RX1 lw_all → Hx D (tX1 yT) A s H locs (wX1 hT aT yT gT) → lv_has ls 4 [(0, .ref hT), (1, .int v1), (2, .int v2), (3, .int v3)] → fn gT v1 v2 v3 = some q → W p l e R_X1_become s m args below meth c H locs 0 0 (MQ below (QV D A (wX1 hT aT yT q)) args s 0 0 A) (F0 m 60 ls [])
def S_X1_become_54 (l : Launch) (D : Dx) (hT : Nat) (aT : Nat → Nat) (yT : Nat → ClassId) (fn : Gs → Int32 → Option (Gs)) : Prop :=
  ∀ {p : Program} {e : Env} {s : State} {m : MethodId} {args : Array Value} {below : List Frame} {meth : Method} {c : Code} {H : Heap} {locs : List Loc} {A : Nat → Prop} {ls : Array Slot} {gT : Gs} {s0 : Int32} {q : Gs}, Cx p s m args meth c cX1_become none 4 RX1 lw_all → Hx D (tX1 yT) A s H locs (wX1 hT aT yT gT) → lv_has ls 4 [] → fn gT s0 = some q → W p l e R_X1_become s m args below meth c H locs 0 0 (MQ below (QV D A (wX1 hT aT yT q)) args s 0 0 A) (F0 m 54 ls [.int s0, .ref hT])
set_option maxHeartbeats 4000000 in
set_option maxRecDepth 100000 in
theorem k_X1_become_116 (l : Launch) (D : Dx) (hT : Nat) (aT : Nat → Nat) (yT : Nat → ClassId) : S_X1_become_116 l D hT aT yT (b_X1_become_116) := by
  intro p e s m args below meth c H locs A ls gT s0 s1 q C X hl hF
  obtain ⟨hx, hb, hr, hml, hown, hts, hlk⟩ := id C
  unfold b_X1_become_116 at hF
  obtain ⟨h_12, hF⟩ := grd_some hF
  refine va_dast (D := D.1) (f := gDA gT 3) hx hb X.1 X.2.1 X.2.2.1 X.2.2.2.1 2 1 rfl rfl (inB_ok h_12) dX1_become_116 (fun H locs hP hD hS => ?_)
  have X : Hx D (tX1 yT) A s H locs (wX1 hT aT yT (sDA gT 3 (vf_upd (gDA gT 3) s1.toNatClampNeg s0))) := Hx_set X (wG_sDA (i := 1) (k := 3) ndX1 rfl rfl) hP hD hS
  refine lv_goto (tgt := 184) hx hb dX1_become_117 (by decide) ?_
  have hq := Option.some.inj hF
  subst hq
  exact rt_v C X dX1_become_184
set_option maxHeartbeats 4000000 in
set_option maxRecDepth 100000 in
theorem k_X1_become_60 (l : Launch) (D : Dx) (hT : Nat) (aT : Nat → Nat) (yT : Nat → ClassId) : S_X1_become_60 l D hT aT yT (b_X1_become_60) := by
  intro p e s m args below meth c H locs A ls gT v1 v2 v3 q C X hl hF
  obtain ⟨hx, hb, hr, hml, hown, hts, hlk⟩ := id C
  unfold b_X1_become_60 at hF
  refine lv_iload_n hx hb dX1_become_60 rfl (lv_at hl 3 rfl) ?_
  refine lv_bipush (v := (6 : Int32)) hx hb dX1_become_61 (by decide) ?_
  refine lv_icmp_ne (tgt := 83) hx hb dX1_become_63 (by decide) (fun c => ?_) (fun c => ?_)
  · replace hF := iF c hF
    refine lv_iload_n hx hb dX1_become_83 rfl (lv_at hl 3 rfl) ?_
    refine lv_bipush (v := (7 : Int32)) hx hb dX1_become_84 (by decide) ?_
    refine lv_icmp_ne (tgt := 120) hx hb dX1_become_86 (by decide) (fun c => ?_) (fun c => ?_)
    · replace hF := iF c hF
      refine lv_iload_n hx hb dX1_become_120 rfl (lv_at hl 2 rfl) ?_
      refine lv_bipush (v := (6 : Int32)) hx hb dX1_become_121 (by decide) ?_
      refine lv_icmp_ge (tgt := 145) hx hb dX1_become_123 (by decide) (fun c => ?_) (fun c => ?_)
      · replace hF := iT c hF
        refine lv_iload_n hx hb dX1_become_145 rfl (lv_at hl 3 rfl) ?_
        refine lv_iconst (v := (5 : Int32)) hx hb dX1_become_146 (by decide) ?_
        refine lv_icmp_ne (tgt := 166) hx hb dX1_become_147 (by decide) (fun c => ?_) (fun c => ?_)
        · replace hF := iF c hF
          refine lv_aload_n hx hb dX1_become_166 rfl (lv_at hl 0 rfl) ?_
          refine va_get (D := D.1) (ci := 1) (v := .ref (aT 2)) (C := RX1) (T := TX1) (N := 7) hx hb hts wi_X1 hown X.1 X.2.1 0 rfl rfl 2 (by decide) (hts _ q1_139) (fun _ h9 => h9) (fl_get (by decide)) dX1_become_167 ?_
          refine lv_iload_n hx hb dX1_become_170 rfl (lv_at hl 1 rfl) ?_
          refine lv_iload_n hx hb dX1_become_171 rfl (lv_at hl 3 rfl) ?_
          refine lv_aload_n hx hb dX1_become_172 rfl (lv_at hl 0 rfl) ?_
          refine va_get (D := D.1) (ci := 1) (v := .ref (aT 3)) (C := RX1) (T := TX1) (N := 7) hx hb hts wi_X1 hown X.1 X.2.1 0 rfl rfl 3 (by decide) (hts _ q1_141) (fun _ h9 => h9) (fl_get (by decide)) dX1_become_173 ?_
          refine lv_iload_n hx hb dX1_become_176 rfl (lv_at hl 1 rfl) ?_
          obtain ⟨h_1, hF⟩ := grd_some hF
          refine va_dald (D := D.1) (f := gDA gT 3) hx hb X.1 X.2.1 2 1 rfl rfl (inB_ok h_1) dX1_become_177 ?_
          refine lv_d2i hx hb dX1_become_178 ?_
          refine lv_i2l hx hb dX1_become_179 rfl ?_
          obtain ⟨q_2, hc_3, hF⟩ := bnd_some hF
          refine cS_l (As := [.int v3, .long ((FP.d2i (gDA gT 3 v1.toNatClampNeg)).toInt64)]) (rest := [.int v1, .ref (aT 2)]) C X (c_X6_wholeOf l D  v3 ((FP.d2i (gDA gT 3 v1.toNatClampNeg)).toInt64) q_2 hc_3 _) (va_cwS 2 hts (good_S q5_55 q5_56 q1_2 q5_57) rfl rfl rfl (by decide +kernel) ⟨Nat.le_of_ble_eq_true rfl, Nat.le_of_ble_eq_true rfl⟩) (eK X) eP (eD (A := A)) (eF X) hl.1 rfl rfl (Nat.le_of_ble_eq_true rfl) dX1_become_180 ⟨Nat.le_of_ble_eq_true rfl, Nat.le_of_ble_eq_true rfl⟩ (fun t H1 locs1 ht hB hk hS => ?_)
          have X := Hx_after_none X hk hS
          clear hk hS ht hB
          generalize H1 = H at X ⊢
          generalize locs1 = locs at X ⊢
          obtain ⟨h_4, hF⟩ := grd_some hF
          refine va_last (D := D.1) (f := gLA gT 2) hx hb X.1 X.2.1 X.2.2.1 X.2.2.2.1 1 0 rfl rfl (inB_ok h_4) dX1_become_183 (fun H locs hP hD hS => ?_)
          have X : Hx D (tX1 yT) A s H locs (wX1 hT aT yT (sLA gT 2 (vp_updL (gLA gT 2) v1.toNatClampNeg q_2))) := Hx_set X (wG_sLA (i := 0) (k := 2) ndX1 rfl rfl) hP hD hS
          have hq := Option.some.inj hF
          subst hq
          exact rt_v C X dX1_become_184
        · replace hF := iT c hF
          refine lv_aload_n hx hb dX1_become_150 rfl (lv_at hl 0 rfl) ?_
          refine va_get (D := D.1) (ci := 1) (v := .ref (aT 2)) (C := RX1) (T := TX1) (N := 7) hx hb hts wi_X1 hown X.1 X.2.1 0 rfl rfl 2 (by decide) (hts _ q1_139) (fun _ h9 => h9) (fl_get (by decide)) dX1_become_151 ?_
          refine lv_iload_n hx hb dX1_become_154 rfl (lv_at hl 1 rfl) ?_
          refine lv_aload_n hx hb dX1_become_155 rfl (lv_at hl 0 rfl) ?_
          refine va_get (D := D.1) (ci := 1) (v := .ref (aT 3)) (C := RX1) (T := TX1) (N := 7) hx hb hts wi_X1 hown X.1 X.2.1 0 rfl rfl 3 (by decide) (hts _ q1_141) (fun _ h9 => h9) (fl_get (by decide)) dX1_become_156 ?_
          refine lv_iload_n hx hb dX1_become_159 rfl (lv_at hl 1 rfl) ?_
          obtain ⟨h_5, hF⟩ := grd_some hF
          refine va_dald (D := D.1) (f := gDA gT 3) hx hb X.1 X.2.1 2 1 rfl rfl (inB_ok h_5) dX1_become_160 ?_
          refine lv_d2l hx hb dX1_become_161 ?_
          obtain ⟨h_6, hF⟩ := grd_some hF
          refine va_last (D := D.1) (f := gLA gT 2) hx hb X.1 X.2.1 X.2.2.1 X.2.2.2.1 1 0 rfl rfl (inB_ok h_6) dX1_become_162 (fun H locs hP hD hS => ?_)
          have X : Hx D (tX1 yT) A s H locs (wX1 hT aT yT (sLA gT 2 (vp_updL (gLA gT 2) v1.toNatClampNeg (FP.d2l (gDA gT 3 v1.toNatClampNeg))))) := Hx_set X (wG_sLA (i := 0) (k := 2) ndX1 rfl rfl) hP hD hS
          refine lv_goto (tgt := 184) hx hb dX1_become_163 (by decide) ?_
          have hq := Option.some.inj hF
          subst hq
          exact rt_v C X dX1_become_184
      · replace hF := iF c hF
        refine lv_aload_n hx hb dX1_become_126 rfl (lv_at hl 0 rfl) ?_
        refine va_get (D := D.1) (ci := 1) (v := .ref (aT 2)) (C := RX1) (T := TX1) (N := 7) hx hb hts wi_X1 hown X.1 X.2.1 0 rfl rfl 2 (by decide) (hts _ q1_139) (fun _ h9 => h9) (fl_get (by decide)) dX1_become_127 ?_
        refine lv_iload_n hx hb dX1_become_130 rfl (lv_at hl 1 rfl) ?_
        refine lv_iload_n hx hb dX1_become_131 rfl (lv_at hl 3 rfl) ?_
        refine lv_aload_n hx hb dX1_become_132 rfl (lv_at hl 0 rfl) ?_
        refine va_get (D := D.1) (ci := 1) (v := .ref (aT 2)) (C := RX1) (T := TX1) (N := 7) hx hb hts wi_X1 hown X.1 X.2.1 0 rfl rfl 2 (by decide) (hts _ q1_139) (fun _ h9 => h9) (fl_get (by decide)) dX1_become_133 ?_
        refine lv_iload_n hx hb dX1_become_136 rfl (lv_at hl 1 rfl) ?_
        obtain ⟨h_7, hF⟩ := grd_some hF
        refine va_lald (D := D.1) (f := gLA gT 2) hx hb X.1 X.2.1 1 0 rfl rfl (inB_ok h_7) dX1_become_137 ?_
        obtain ⟨q_8, hc_9, hF⟩ := bnd_some hF
        refine cS_l (As := [.int v3, .long (gLA gT 2 v1.toNatClampNeg)]) (rest := [.int v1, .ref (aT 2)]) C X (c_X6_wholeOf l D  v3 (gLA gT 2 v1.toNatClampNeg) q_8 hc_9 _) (va_cwS 2 hts (good_S q5_55 q5_56 q1_2 q5_57) rfl rfl rfl (by decide +kernel) ⟨Nat.le_of_ble_eq_true rfl, Nat.le_of_ble_eq_true rfl⟩) (eK X) eP (eD (A := A)) (eF X) hl.1 rfl rfl (Nat.le_of_ble_eq_true rfl) dX1_become_138 ⟨Nat.le_of_ble_eq_true rfl, Nat.le_of_ble_eq_true rfl⟩ (fun t H1 locs1 ht hB hk hS => ?_)
        have X := Hx_after_none X hk hS
        clear hk hS ht hB
        generalize H1 = H at X ⊢
        generalize locs1 = locs at X ⊢
        obtain ⟨h_10, hF⟩ := grd_some hF
        refine va_last (D := D.1) (f := gLA gT 2) hx hb X.1 X.2.1 X.2.2.1 X.2.2.2.1 1 0 rfl rfl (inB_ok h_10) dX1_become_141 (fun H locs hP hD hS => ?_)
        have X : Hx D (tX1 yT) A s H locs (wX1 hT aT yT (sLA gT 2 (vp_updL (gLA gT 2) v1.toNatClampNeg q_8))) := Hx_set X (wG_sLA (i := 0) (k := 2) ndX1 rfl rfl) hP hD hS
        refine lv_goto (tgt := 184) hx hb dX1_become_142 (by decide) ?_
        have hq := Option.some.inj hF
        subst hq
        exact rt_v C X dX1_become_184
    · replace hF := iT c hF
      refine lv_aload_n hx hb dX1_become_89 rfl (lv_at hl 0 rfl) ?_
      refine va_get (D := D.1) (ci := 1) (v := .ref (aT 3)) (C := RX1) (T := TX1) (N := 7) hx hb hts wi_X1 hown X.1 X.2.1 0 rfl rfl 3 (by decide) (hts _ q1_141) (fun _ h9 => h9) (fl_get (by decide)) dX1_become_90 ?_
      refine lv_iload_n hx hb dX1_become_93 rfl (lv_at hl 1 rfl) ?_
      refine lv_iload_n hx hb dX1_become_94 rfl (lv_at hl 2 rfl) ?_
      refine lv_bipush (v := (6 : Int32)) hx hb dX1_become_95 (by decide) ?_
      refine lv_icmp_ne (tgt := 109) hx hb dX1_become_97 (by decide) (fun c => ?_) (fun c => ?_)
      · replace hF := iF c hF
        refine lv_aload_n hx hb dX1_become_109 rfl (lv_at hl 0 rfl) ?_
        refine va_get (D := D.1) (ci := 1) (v := .ref (aT 2)) (C := RX1) (T := TX1) (N := 7) hx hb hts wi_X1 hown X.1 X.2.1 0 rfl rfl 2 (by decide) (hts _ q1_139) (fun _ h9 => h9) (fl_get (by decide)) dX1_become_110 ?_
        refine lv_iload_n hx hb dX1_become_113 rfl (lv_at hl 1 rfl) ?_
        obtain ⟨h_11, hF⟩ := grd_some hF
        refine va_lald (D := D.1) (f := gLA gT 2) hx hb X.1 X.2.1 1 0 rfl rfl (inB_ok h_11) dX1_become_114 ?_
        refine lv_l2d hx hb dX1_become_115 ?_
        exact (k_X1_become_116 l D hT aT yT) C X (lv_sub hl [] rfl) hF
      · replace hF := iT c hF
        refine lv_aload_n hx hb dX1_become_100 rfl (lv_at hl 0 rfl) ?_
        refine va_get (D := D.1) (ci := 1) (v := .ref (aT 3)) (C := RX1) (T := TX1) (N := 7) hx hb hts wi_X1 hown X.1 X.2.1 0 rfl rfl 3 (by decide) (hts _ q1_141) (fun _ h9 => h9) (fl_get (by decide)) dX1_become_101 ?_
        refine lv_iload_n hx hb dX1_become_104 rfl (lv_at hl 1 rfl) ?_
        obtain ⟨h_13, hF⟩ := grd_some hF
        refine va_dald (D := D.1) (f := gDA gT 3) hx hb X.1 X.2.1 2 1 rfl rfl (inB_ok h_13) dX1_become_105 ?_
        refine lv_goto (tgt := 116) hx hb dX1_become_106 (by decide) ?_
        exact (k_X1_become_116 l D hT aT yT) C X (lv_sub hl [] rfl) hF
  · replace hF := iT c hF
    refine lv_aload_n hx hb dX1_become_66 rfl (lv_at hl 0 rfl) ?_
    refine va_get (D := D.1) (ci := 1) (v := .ref (aT 3)) (C := RX1) (T := TX1) (N := 7) hx hb hts wi_X1 hown X.1 X.2.1 0 rfl rfl 3 (by decide) (hts _ q1_141) (fun _ h9 => h9) (fl_get (by decide)) dX1_become_67 ?_
    refine lv_iload_n hx hb dX1_become_70 rfl (lv_at hl 1 rfl) ?_
    refine lv_aload_n hx hb dX1_become_71 rfl (lv_at hl 0 rfl) ?_
    refine va_get (D := D.1) (ci := 1) (v := .ref (aT 2)) (C := RX1) (T := TX1) (N := 7) hx hb hts wi_X1 hown X.1 X.2.1 0 rfl rfl 2 (by decide) (hts _ q1_139) (fun _ h9 => h9) (fl_get (by decide)) dX1_become_72 ?_
    refine lv_iload_n hx hb dX1_become_75 rfl (lv_at hl 1 rfl) ?_
    obtain ⟨h_14, hF⟩ := grd_some hF
    refine va_lald (D := D.1) (f := gLA gT 2) hx hb X.1 X.2.1 1 0 rfl rfl (inB_ok h_14) dX1_become_76 ?_
    refine lv_l2f hx hb dX1_become_77 ?_
    obtain ⟨h_15, hF⟩ := grd_some hF
    refine lv_f2d hx hb dX1_become_78 (n64_ok h_15) ?_
    obtain ⟨h_16, hF⟩ := grd_some hF
    refine va_dast (D := D.1) (f := gDA gT 3) hx hb X.1 X.2.1 X.2.2.1 X.2.2.2.1 2 1 rfl rfl (inB_ok h_16) dX1_become_79 (fun H locs hP hD hS => ?_)
    have X : Hx D (tX1 yT) A s H locs (wX1 hT aT yT (sDA gT 3 (vf_upd (gDA gT 3) v1.toNatClampNeg (FP.f2d (FP.l2f (gLA gT 2 v1.toNatClampNeg)))))) := Hx_set X (wG_sDA (i := 1) (k := 3) ndX1 rfl rfl) hP hD hS
    refine lv_goto (tgt := 184) hx hb dX1_become_80 (by decide) ?_
    have hq := Option.some.inj hF
    subst hq
    exact rt_v C X dX1_become_184
set_option maxHeartbeats 4000000 in
set_option maxRecDepth 100000 in
theorem k_X1_become_54 (l : Launch) (D : Dx) (hT : Nat) (aT : Nat → Nat) (yT : Nat → ClassId) : S_X1_become_54 l D hT aT yT (b_X1_become_54) := by
  intro p e s m args below meth c H locs A ls gT s0 q C X hl hF
  obtain ⟨hx, hb, hr, hml, hown, hts, hlk⟩ := id C
  unfold b_X1_become_54 at hF
  refine va_put (D := D.1) (ci := 1) (v := .int s0) (ty := .int) (C := RX1) (T := TX1) (N := 7) hx hb hts wi_X1 tyX1 tyX1_ok nmX1 hown X.1 X.2.1 X.2.2.1 X.2.2.2.1 0 rfl rfl 5 (by decide) (hts _ q1_144) (fun _ h9 => h9) rfl (by decide +kernel) rfl rfl (by rw [List.length_map, List.length_range]; decide) dX1_become_54 (fun H locs hP hD hS => ?_)
  have X : Hx D (tX1 yT) A s H locs (wX1 hT aT yT (sI gT 5 s0)) := Hx_set X (wG_sI (k := 5) rfl) hP hD hS
  refine lv_goto (tgt := 184) hx hb dX1_become_57 (by decide) ?_
  have hq := Option.some.inj hF
  subst hq
  exact rt_v C X dX1_become_184
set_option maxHeartbeats 4000000 in
set_option maxRecDepth 100000 in
theorem c_X1_become (l : Launch) (D : Dx) (hT : Nat) (aT : Nat → Nat) (yT : Nat → ClassId) (gT : Gs) (x0 : Int32) (x1 : Int32) (x2 : Int32) (q : Gs) (hF : f_X1_become gT x0 x1 x2 = some q) (sz : Nat) : Met l yX1_become (ws_ yX1_become cX1_become 4 none) R_X1_become (PC D (tX1 yT) [.ref hT, .int x0, .int x1, .int x2] (wX1 hT aT yT gT) sz) (QV D (va_A (wX1 hT aT yT gT) sz) (wX1 hT aT yT q)) 0 0 (va_A (wX1 hT aT yT gT) sz) := by
  refine Met.ofW (cc := cX1_become) (maxL := 4) (ret := none) (by decide) rfl ?_
  intro p e s m args below meth c s₁ B hml hv
  obtain ⟨rfl, hsz, hP, hK, hD, hN⟩ := hv
  subst hsz
  have C : Cx p s m _ meth c cX1_become none 4 RX1 lw_all := Cx_of B hml
  have X := Hx_start hP hK hD hN
  obtain ⟨hx, hb, hr, -, hown, hts, hlk⟩ := id C
  generalize va_A (wX1 hT aT yT gT) s.heap.size = A at X ⊢
  have hl := lv_entry ([.ref hT, .int x0, .int x1, .int x2]) (n := 4) (Nat.le_of_ble_eq_true rfl)
  rw [lg_entry_eq]
  generalize (lg_sl ([.ref hT, .int x0, .int x1, .int x2]) ++ List.replicate (4 - (lg_sl ([.ref hT, .int x0, .int x1, .int x2])).length) Slot.unset).toArray = ls at hl ⊢
  have hl : lv_has ls 4 [(0, .ref hT), (1, .int x0), (2, .int x1), (3, .int x2)] := hl
  unfold f_X1_become at hF
  refine lv_iload_n hx hb dX1_become_0 rfl (lv_at hl 1 rfl) ?_
  refine lv_if_lt (tgt := 9) hx hb dX1_become_1 (by decide) (fun c => ?_) (fun c => ?_)
  · replace hF := iT c hF
    have hq := Option.some.inj hF
    subst hq
    exact rt_v C X dX1_become_9
  · replace hF := iF c hF
    refine lv_iload_n hx hb dX1_become_4 rfl (lv_at hl 2 rfl) ?_
    refine lv_iload_n hx hb dX1_become_5 rfl (lv_at hl 3 rfl) ?_
    refine lv_icmp_ne (tgt := 10) hx hb dX1_become_6 (by decide) (fun c => ?_) (fun c => ?_)
    · replace hF := iF c hF
      refine lv_iload_n hx hb dX1_become_10 rfl (lv_at hl 3 rfl) ?_
      refine lv_bipush (v := (6 : Int32)) hx hb dX1_become_11 (by decide) ?_
      refine lv_icmp_ne (tgt := 60) hx hb dX1_become_13 (by decide) (fun c => ?_) (fun c => ?_)
      · replace hF := iF c hF
        exact (k_X1_become_60 l D hT aT yT) C X (lv_sub hl [0, 1, 2, 3] rfl) hF
      · replace hF := iT c hF
        refine lv_iload_n hx hb dX1_become_16 rfl (lv_at hl 2 rfl) ?_
        refine lv_bipush (v := (7 : Int32)) hx hb dX1_become_17 (by decide) ?_
        refine lv_icmp_ne (tgt := 60) hx hb dX1_become_19 (by decide) (fun c => ?_) (fun c => ?_)
        · replace hF := iF c hF
          exact (k_X1_become_60 l D hT aT yT) C X (lv_sub hl [0, 1, 2, 3] rfl) hF
        · replace hF := iT c hF
          refine lv_aload_n hx hb dX1_become_22 rfl (lv_at hl 0 rfl) ?_
          refine va_get (D := D.1) (ci := 1) (v := .ref (aT 3)) (C := RX1) (T := TX1) (N := 7) hx hb hts wi_X1 hown X.1 X.2.1 0 rfl rfl 3 (by decide) (hts _ q1_141) (fun _ h9 => h9) (fl_get (by decide)) dX1_become_23 ?_
          refine lv_iload_n hx hb dX1_become_26 rfl (lv_at hl 1 rfl) ?_
          refine lv_aload_n hx hb dX1_become_27 rfl (lv_at hl 0 rfl) ?_
          refine va_get (D := D.1) (ci := 1) (v := .ref (aT 3)) (C := RX1) (T := TX1) (N := 7) hx hb hts wi_X1 hown X.1 X.2.1 0 rfl rfl 3 (by decide) (hts _ q1_141) (fun _ h9 => h9) (fl_get (by decide)) dX1_become_28 ?_
          refine lv_iload_n hx hb dX1_become_31 rfl (lv_at hl 1 rfl) ?_
          obtain ⟨h_17, hF⟩ := grd_some hF
          refine va_dald (D := D.1) (f := gDA gT 3) hx hb X.1 X.2.1 2 1 rfl rfl (inB_ok h_17) dX1_become_32 ?_
          obtain ⟨h_18, hF⟩ := grd_some hF
          refine lv_d2f hx hb dX1_become_33 (n32_ok h_18) ?_
          obtain ⟨h_19, hF⟩ := grd_some hF
          refine lv_f2d hx hb dX1_become_34 (n64_ok h_19) ?_
          obtain ⟨h_20, hF⟩ := grd_some hF
          refine va_dast (D := D.1) (f := gDA gT 3) hx hb X.1 X.2.1 X.2.2.1 X.2.2.2.1 2 1 rfl rfl (inB_ok h_20) dX1_become_35 (fun H locs hP hD hS => ?_)
          have X : Hx D (tX1 yT) A s H locs (wX1 hT aT yT (sDA gT 3 (vf_upd (gDA gT 3) x0.toNatClampNeg (FP.f2d (FP.d2f (gDA gT 3 x0.toNatClampNeg)))))) := Hx_set X (wG_sDA (i := 1) (k := 3) ndX1 rfl rfl) hP hD hS
          refine lv_aload_n hx hb dX1_become_36 rfl (lv_at hl 0 rfl) ?_
          refine lv_aload_n hx hb dX1_become_37 rfl (lv_at hl 0 rfl) ?_
          refine va_get (D := D.1) (ci := 1) (v := .ref (aT 3)) (C := RX1) (T := TX1) (N := 7) hx hb hts wi_X1 hown X.1 X.2.1 0 rfl rfl 3 (by decide) (hts _ q1_141) (fun _ h9 => h9) (fl_get (by decide)) dX1_become_38 ?_
          refine lv_iload_n hx hb dX1_become_41 rfl (lv_at hl 1 rfl) ?_
          obtain ⟨h_21, hF⟩ := grd_some hF
          refine va_dald (D := D.1) (f := vf_upd (gDA gT 3) x0.toNatClampNeg (FP.f2d (FP.d2f (gDA gT 3 x0.toNatClampNeg)))) hx hb X.1 X.2.1 2 1 rfl rfl (inB_ok h_21) dX1_become_42 ?_
          obtain ⟨q_22, hc_23, hF⟩ := bnd_some hF
          refine cS_i (As := [.double ((vf_upd (gDA gT 3) x0.toNatClampNeg (FP.f2d (FP.d2f (gDA gT 3 x0.toNatClampNeg)))) x0.toNatClampNeg)]) (rest := [.ref hT]) C X (c_X6_isBeyond l D  ((vf_upd (gDA gT 3) x0.toNatClampNeg (FP.f2d (FP.d2f (gDA gT 3 x0.toNatClampNeg)))) x0.toNatClampNeg) q_22 hc_23 _) (va_cwS 1 hts (good_S q5_54 q3_216 q1_2 q3_217) rfl rfl rfl (by decide +kernel) ⟨Nat.le_of_ble_eq_true rfl, Nat.le_of_ble_eq_true rfl⟩) (eK X) eP (eD (A := A)) (eF X) hl.1 rfl rfl (Nat.le_of_ble_eq_true rfl) dX1_become_43 ⟨Nat.le_of_ble_eq_true rfl, Nat.le_of_ble_eq_true rfl⟩ (fun t H1 locs1 ht hB hk hS => ?_)
          have X := Hx_after_none X hk hS
          clear hk hS ht hB
          generalize H1 = H at X ⊢
          generalize locs1 = locs at X ⊢
          refine lv_if_eq (tgt := 53) hx hb dX1_become_46 (by decide) (fun c => ?_) (fun c => ?_)
          · replace hF := iT c hF
            refine lv_iconst (v := (0 : Int32)) hx hb dX1_become_53 (by decide) ?_
            exact (k_X1_become_54 l D hT aT yT) C X (lv_sub hl [] rfl) hF
          · replace hF := iF c hF
            refine lv_iconst (v := (3 : Int32)) hx hb dX1_become_49 (by decide) ?_
            refine lv_goto (tgt := 54) hx hb dX1_become_50 (by decide) ?_
            exact (k_X1_become_54 l D hT aT yT) C X (lv_sub hl [] rfl) hF
    · replace hF := iT c hF
      have hq := Option.some.inj hF
      subst hq
      exact rt_v C X dX1_become_9

/-! ### X1_store -/
theorem dX1_store_0 : decode cX1_store 0 = .ok (.aload_n 0, 1) := by decide +kernel
theorem dX1_store_1 : decode cX1_store 1 = .ok (.iconst 0, 1) := by decide +kernel
theorem dX1_store_2 : decode cX1_store 2 = .ok (.iload_n 2, 1) := by decide +kernel
theorem dX1_store_3 : decode cX1_store 3 = .ok (.iload_n 3, 1) := by decide +kernel
theorem dX1_store_4 : decode cX1_store 4 = .ok (.invokevirtual 99, 3) := by decide +kernel
theorem dX1_store_7 : decode cX1_store 7 = .ok (.aload_n 0, 1) := by decide +kernel
theorem dX1_store_8 : decode cX1_store 8 = .ok (.getfield 33, 3) := by decide +kernel
theorem dX1_store_11 : decode cX1_store 11 = .ok (.getfield 74, 3) := by decide +kernel
theorem dX1_store_14 : decode cX1_store 14 = .ok (.iload_n 1, 1) := by decide +kernel
theorem dX1_store_15 : decode cX1_store 15 = .ok (.aload_n 0, 1) := by decide +kernel
theorem dX1_store_16 : decode cX1_store 16 = .ok (.getfield 9, 3) := by decide +kernel
theorem dX1_store_19 : decode cX1_store 19 = .ok (.iconst 0, 1) := by decide +kernel
theorem dX1_store_20 : decode cX1_store 20 = .ok (.laload, 1) := by decide +kernel
theorem dX1_store_21 : decode cX1_store 21 = .ok (.lastore, 1) := by decide +kernel
theorem dX1_store_22 : decode cX1_store 22 = .ok (.aload_n 0, 1) := by decide +kernel
theorem dX1_store_23 : decode cX1_store 23 = .ok (.getfield 33, 3) := by decide +kernel
theorem dX1_store_26 : decode cX1_store 26 = .ok (.getfield 80, 3) := by decide +kernel
theorem dX1_store_29 : decode cX1_store 29 = .ok (.iload_n 1, 1) := by decide +kernel
theorem dX1_store_30 : decode cX1_store 30 = .ok (.aload_n 0, 1) := by decide +kernel
theorem dX1_store_31 : decode cX1_store 31 = .ok (.getfield 15, 3) := by decide +kernel
theorem dX1_store_34 : decode cX1_store 34 = .ok (.iconst 0, 1) := by decide +kernel
theorem dX1_store_35 : decode cX1_store 35 = .ok (.daload, 1) := by decide +kernel
theorem dX1_store_36 : decode cX1_store 36 = .ok (.dastore, 1) := by decide +kernel
theorem dX1_store_37 : decode cX1_store 37 = .ok (.return_, 1) := by decide +kernel
abbrev R_X1_store : Room := ({ frames := 2, cells := 0, slots := 0, locals := 45 } : Room)
def f_X1_store (gT : Gs) (gT_1 : Gs) (x0 : Int32) (x1 : Int32) (x2 : Int32) : Option (Gs × Gs) :=
  bnd (f_X1_become gT (0 : Int32) x1 x2) (fun q_1 => grd (inB (0 : Int32) 512) (grd (inB x0 40) (grd (inB (0 : Int32) 512) (grd (inB x0 40) (some (q_1, (sDA (sLA gT_1 0 (vp_updL (gLA gT_1 0) x0.toNatClampNeg (gLA q_1 2 (0 : Int32).toNatClampNeg))) 1 (vf_upd (gDA gT_1 1) x0.toNatClampNeg (gDA q_1 3 (0 : Int32).toNatClampNeg)))))))))
set_option maxHeartbeats 4000000 in
set_option maxRecDepth 100000 in
theorem c_X1_store (l : Launch) (D : Dx) (hT : Nat) (aT : Nat → Nat) (yT : Nat → ClassId) (aT_1 : Nat → Nat) (yT_1 : Nat → ClassId) (gT : Gs) (gT_1 : Gs) (x0 : Int32) (x1 : Int32) (x2 : Int32) (q : Gs × Gs) (hF : f_X1_store gT gT_1 x0 x1 x2 = some q) (sz : Nat) : Met l yX1_store (ws_ yX1_store cX1_store 4 none) R_X1_store (PC D (tX1 yT ++ (tX9 yT_1)) [.ref hT, .int x0, .int x1, .int x2] (wX1 hT aT yT gT ++ (wX9 (aT 1) aT_1 yT_1 gT_1)) sz) (QV D (va_A (wX1 hT aT yT gT ++ (wX9 (aT 1) aT_1 yT_1 gT_1)) sz) (wX1 hT aT yT q.1 ++ (wX9 (aT 1) aT_1 yT_1 q.2))) 0 0 (va_A (wX1 hT aT yT gT ++ (wX9 (aT 1) aT_1 yT_1 gT_1)) sz) := by
  refine Met.ofW (cc := cX1_store) (maxL := 4) (ret := none) (by decide) rfl ?_
  intro p e s m args below meth c s₁ B hml hv
  obtain ⟨rfl, hsz, hP, hK, hD, hN⟩ := hv
  subst hsz
  have C : Cx p s m _ meth c cX1_store none 4 RX1 lw_all := Cx_of B hml
  have X := Hx_start hP hK hD hN
  obtain ⟨hx, hb, hr, -, hown, hts, hlk⟩ := id C
  generalize va_A (wX1 hT aT yT gT ++ (wX9 (aT 1) aT_1 yT_1 gT_1)) s.heap.size = A at X ⊢
  have hl := lv_entry ([.ref hT, .int x0, .int x1, .int x2]) (n := 4) (Nat.le_of_ble_eq_true rfl)
  rw [lg_entry_eq]
  generalize (lg_sl ([.ref hT, .int x0, .int x1, .int x2]) ++ List.replicate (4 - (lg_sl ([.ref hT, .int x0, .int x1, .int x2])).length) Slot.unset).toArray = ls at hl ⊢
  have hl : lv_has ls 4 [(0, .ref hT), (1, .int x0), (2, .int x1), (3, .int x2)] := hl
  unfold f_X1_store at hF
  refine lv_aload_n hx hb dX1_store_0 rfl (lv_at hl 0 rfl) ?_
  refine lv_iconst (v := (0 : Int32)) hx hb dX1_store_1 (by decide) ?_
  refine lv_iload_n hx hb dX1_store_2 rfl (lv_at hl 2 rfl) ?_
  refine lv_iload_n hx hb dX1_store_3 rfl (lv_at hl 3 rfl) ?_
  obtain ⟨q_1, hc_2, hF⟩ := bnd_some hF
  refine cV_v (As := [.int (0 : Int32), .int x1, .int x2]) (rest := []) C X (c_X1_become l D hT aT yT gT (0 : Int32) x1 x2 q_1 hc_2 _) (cwV 3 hts (good_V q5_50 q5_52 q0_50 q1_4 q5_53) rfl rfl rfl (by decide +kernel) ⟨Nat.le_of_ble_eq_true rfl, Nat.le_of_ble_eq_true rfl⟩) (va_recv X.1 X.2.1 (ci := 1) (q0 := 0) rfl rfl) (X.1.sub (tys' := tX1 yT) [0, 1] rfl) (X.2.1.sub (ws' := wX1 hT aT yT gT) [0, 1, 2] rfl) (X.2.2.1.sub (ws' := wX1 hT aT yT gT) [0, 1, 2] (by decide) rfl) (free_of (wC := wX1 hT aT yT gT) (isC := [0, 1, 2]) X rfl) hl.1 rfl rfl (Nat.le_of_ble_eq_true rfl) dX1_store_4 ⟨Nat.le_of_ble_eq_true rfl, Nat.le_of_ble_eq_true rfl⟩ (fun t H1 locs1 ht hB hk hS => ?_)
  have X : Hx D (tX1 yT ++ (tX9 yT_1)) A s H1 locs1 (wX1 hT aT yT q_1 ++ (wX9 (aT 1) aT_1 yT_1 gT_1)) := Hx_after (isC := [0, 1, 2]) (isR := [3, 4, 5, 6, 7, 8, 9, 10, 11, 12, 13, 14, 15]) (pm := [13, 14, 15, 0, 1, 2, 3, 4, 5, 6, 7, 8, 9, 10, 11, 12]) (wr := wX9 (aT 1) aT_1 yT_1 gT_1) X ⟨rfl, rfl, by decide, by decide, rfl, by decide⟩ ht hB hk hS
  clear hk hS ht hB
  generalize H1 = H at X ⊢
  generalize locs1 = locs at X ⊢
  refine lv_aload_n hx hb dX1_store_7 rfl (lv_at hl 0 rfl) ?_
  refine va_get (D := D.1) (ci := 1) (v := .ref (aT 1)) (C := RX1) (T := TX1) (N := 7) hx hb hts wi_X1 hown X.1 X.2.1 0 rfl rfl 1 (by decide) (hts _ q1_138) (fun _ h9 => h9) (fl_get (by decide)) dX1_store_8 ?_
  refine va_getN (D := D.1) (ci := 9) (v := .ref (aT_1 0)) (C := RX9) (T := TX9) (N := 17) hx hb hts wi_X9 hown X.1 X.2.1 3 rfl rfl 0 (by decide) (X.2.2.2.2.2.1.use q1_54 rfl) (fun _ h9 => h9) (fl_get (by decide)) dX1_store_11 ?_
  refine lv_iload_n hx hb dX1_store_14 rfl (lv_at hl 1 rfl) ?_
  refine lv_aload_n hx hb dX1_store_15 rfl (lv_at hl 0 rfl) ?_
  refine va_get (D := D.1) (ci := 1) (v := .ref (aT 2)) (C := RX1) (T := TX1) (N := 7) hx hb hts wi_X1 hown X.1 X.2.1 0 rfl rfl 2 (by decide) (hts _ q1_139) (fun _ h9 => h9) (fl_get (by decide)) dX1_store_16 ?_
  refine lv_iconst (v := (0 : Int32)) hx hb dX1_store_19 (by decide) ?_
  obtain ⟨h_3, hF⟩ := grd_some hF
  refine va_lald (D := D.1) (f := gLA q_1 2) hx hb X.1 X.2.1 1 0 rfl rfl (inB_ok h_3) dX1_store_20 ?_
  obtain ⟨h_4, hF⟩ := grd_some hF
  refine va_last (D := D.1) (f := gLA gT_1 0) hx hb X.1 X.2.1 X.2.2.1 X.2.2.2.1 4 2 rfl rfl (inB_ok h_4) dX1_store_21 (fun H locs hP hD hS => ?_)
  have X : Hx D (tX1 yT ++ (tX9 yT_1)) A s H locs (wX1 hT aT yT q_1 ++ (wX9 (aT 1) aT_1 yT_1 (sLA gT_1 0 (vp_updL (gLA gT_1 0) x0.toNatClampNeg (gLA q_1 2 (0 : Int32).toNatClampNeg))))) := Hx_set X (set_r (n := 3) (i := 1) (j := 4) (wG_len rfl) rfl (wG_sLA (i := 0) (k := 0) ndX9 rfl rfl)) hP hD hS
  refine lv_aload_n hx hb dX1_store_22 rfl (lv_at hl 0 rfl) ?_
  refine va_get (D := D.1) (ci := 1) (v := .ref (aT 1)) (C := RX1) (T := TX1) (N := 7) hx hb hts wi_X1 hown X.1 X.2.1 0 rfl rfl 1 (by decide) (hts _ q1_138) (fun _ h9 => h9) (fl_get (by decide)) dX1_store_23 ?_
  refine va_getN (D := D.1) (ci := 9) (v := .ref (aT_1 1)) (C := RX9) (T := TX9) (N := 17) hx hb hts wi_X9 hown X.1 X.2.1 3 rfl rfl 1 (by decide) (X.2.2.2.2.2.1.use q1_57 rfl) (fun _ h9 => h9) (fl_get (by decide)) dX1_store_26 ?_
  refine lv_iload_n hx hb dX1_store_29 rfl (lv_at hl 1 rfl) ?_
  refine lv_aload_n hx hb dX1_store_30 rfl (lv_at hl 0 rfl) ?_
  refine va_get (D := D.1) (ci := 1) (v := .ref (aT 3)) (C := RX1) (T := TX1) (N := 7) hx hb hts wi_X1 hown X.1 X.2.1 0 rfl rfl 3 (by decide) (hts _ q1_141) (fun _ h9 => h9) (fl_get (by decide)) dX1_store_31 ?_
  refine lv_iconst (v := (0 : Int32)) hx hb dX1_store_34 (by decide) ?_
  obtain ⟨h_5, hF⟩ := grd_some hF
  refine va_dald (D := D.1) (f := gDA q_1 3) hx hb X.1 X.2.1 2 1 rfl rfl (inB_ok h_5) dX1_store_35 ?_
  obtain ⟨h_6, hF⟩ := grd_some hF
  refine va_dast (D := D.1) (f := gDA gT_1 1) hx hb X.1 X.2.1 X.2.2.1 X.2.2.2.1 5 3 rfl rfl (inB_ok h_6) dX1_store_36 (fun H locs hP hD hS => ?_)
  have X : Hx D (tX1 yT ++ (tX9 yT_1)) A s H locs (wX1 hT aT yT q_1 ++ (wX9 (aT 1) aT_1 yT_1 (sDA (sLA gT_1 0 (vp_updL (gLA gT_1 0) x0.toNatClampNeg (gLA q_1 2 (0 : Int32).toNatClampNeg))) 1 (vf_upd (gDA gT_1 1) x0.toNatClampNeg (gDA q_1 3 (0 : Int32).toNatClampNeg))))) := Hx_set X (set_r (n := 3) (i := 2) (j := 5) (wG_len rfl) rfl (wG_sDA (i := 1) (k := 1) ndX9 rfl rfl)) hP hD hS
  have hq := Option.some.inj hF
  subst hq
  exact rt_v C X dX1_store_37

/-! ### X1_takeTooth -/
theorem dX1_takeTooth_0 : decode cX1_takeTooth 0 = .ok (.aload_n 0, 1) := by decide +kernel
theorem dX1_takeTooth_1 : decode cX1_takeTooth 1 = .ok (.getfield 19, 3) := by decide +kernel
theorem dX1_takeTooth_4 : decode cX1_takeTooth 4 = .ok (.iconst 1, 1) := by decide +kernel
theorem dX1_takeTooth_5 : decode cX1_takeTooth 5 = .ok (.isub, 1) := by decide +kernel
theorem dX1_takeTooth_6 : decode cX1_takeTooth 6 = .ok (.istore_n 3, 1) := by decide +kernel
theorem dX1_takeTooth_7 : decode cX1_takeTooth 7 = .ok (.iload_n 3, 1) := by decide +kernel
theorem dX1_takeTooth_8 : decode cX1_takeTooth 8 = .ok (.ifCond .lt 15, 3) := by decide +kernel
theorem dX1_takeTooth_11 : decode cX1_takeTooth 11 = .ok (.iload_n 2, 1) := by decide +kernel
theorem dX1_takeTooth_12 : decode cX1_takeTooth 12 = .ok (.ifCond .lt 11, 3) := by decide +kernel
theorem dX1_takeTooth_15 : decode cX1_takeTooth 15 = .ok (.iload_n 2, 1) := by decide +kernel
theorem dX1_takeTooth_16 : decode cX1_takeTooth 16 = .ok (.aload_n 1, 1) := by decide +kernel
theorem dX1_takeTooth_17 : decode cX1_takeTooth 17 = .ok (.getfield 166, 3) := by decide +kernel
theorem dX1_takeTooth_20 : decode cX1_takeTooth 20 = .ok (.if_icmp .lt 4, 3) := by decide +kernel
theorem dX1_takeTooth_23 : decode cX1_takeTooth 23 = .ok (.return_, 1) := by decide +kernel
theorem dX1_takeTooth_24 : decode cX1_takeTooth 24 = .ok (.aload_n 0, 1) := by decide +kernel
theorem dX1_takeTooth_25 : decode cX1_takeTooth 25 = .ok (.getfield 9, 3) := by decide +kernel
theorem dX1_takeTooth_28 : decode cX1_takeTooth 28 = .ok (.iload_n 3, 1) := by decide +kernel
theorem dX1_takeTooth_29 : decode cX1_takeTooth 29 = .ok (.laload, 1) := by decide +kernel
theorem dX1_takeTooth_30 : decode cX1_takeTooth 30 = .ok (.lstore 4, 2) := by decide +kernel
theorem dX1_takeTooth_32 : decode cX1_takeTooth 32 = .ok (.lload 4, 2) := by decide +kernel
theorem dX1_takeTooth_34 : decode cX1_takeTooth 34 = .ok (.lconst 0, 1) := by decide +kernel
theorem dX1_takeTooth_35 : decode cX1_takeTooth 35 = .ok (.lcmp, 1) := by decide +kernel
theorem dX1_takeTooth_36 : decode cX1_takeTooth 36 = .ok (.ifCond .lt 16, 3) := by decide +kernel
theorem dX1_takeTooth_39 : decode cX1_takeTooth 39 = .ok (.lload 4, 2) := by decide +kernel
theorem dX1_takeTooth_41 : decode cX1_takeTooth 41 = .ok (.aload_n 1, 1) := by decide +kernel
theorem dX1_takeTooth_42 : decode cX1_takeTooth 42 = .ok (.getfield 169, 3) := by decide +kernel
theorem dX1_takeTooth_45 : decode cX1_takeTooth 45 = .ok (.iload_n 2, 1) := by decide +kernel
theorem dX1_takeTooth_46 : decode cX1_takeTooth 46 = .ok (.iaload, 1) := by decide +kernel
theorem dX1_takeTooth_47 : decode cX1_takeTooth 47 = .ok (.i2l, 1) := by decide +kernel
theorem dX1_takeTooth_48 : decode cX1_takeTooth 48 = .ok (.lcmp, 1) := by decide +kernel
theorem dX1_takeTooth_49 : decode cX1_takeTooth 49 = .ok (.ifCond .lt 11, 3) := by decide +kernel
theorem dX1_takeTooth_52 : decode cX1_takeTooth 52 = .ok (.aload_n 0, 1) := by decide +kernel
theorem dX1_takeTooth_53 : decode cX1_takeTooth 53 = .ok (.iconst 4, 1) := by decide +kernel
theorem dX1_takeTooth_54 : decode cX1_takeTooth 54 = .ok (.putfield 23, 3) := by decide +kernel
theorem dX1_takeTooth_57 : decode cX1_takeTooth 57 = .ok (.goto 22, 3) := by decide +kernel
theorem dX1_takeTooth_60 : decode cX1_takeTooth 60 = .ok (.aload_n 0, 1) := by decide +kernel
theorem dX1_takeTooth_61 : decode cX1_takeTooth 61 = .ok (.getfield 15, 3) := by decide +kernel
theorem dX1_takeTooth_64 : decode cX1_takeTooth 64 = .ok (.iload_n 3, 1) := by decide +kernel
theorem dX1_takeTooth_65 : decode cX1_takeTooth 65 = .ok (.aload_n 1, 1) := by decide +kernel
theorem dX1_takeTooth_66 : decode cX1_takeTooth 66 = .ok (.getfield 172, 3) := by decide +kernel
theorem dX1_takeTooth_69 : decode cX1_takeTooth 69 = .ok (.iload_n 2, 1) := by decide +kernel
theorem dX1_takeTooth_70 : decode cX1_takeTooth 70 = .ok (.bipush 24, 2) := by decide +kernel
theorem dX1_takeTooth_72 : decode cX1_takeTooth 72 = .ok (.imul, 1) := by decide +kernel
theorem dX1_takeTooth_73 : decode cX1_takeTooth 73 = .ok (.lload 4, 2) := by decide +kernel
theorem dX1_takeTooth_75 : decode cX1_takeTooth 75 = .ok (.l2i, 1) := by decide +kernel
theorem dX1_takeTooth_76 : decode cX1_takeTooth 76 = .ok (.iadd, 1) := by decide +kernel
theorem dX1_takeTooth_77 : decode cX1_takeTooth 77 = .ok (.daload, 1) := by decide +kernel
theorem dX1_takeTooth_78 : decode cX1_takeTooth 78 = .ok (.dastore, 1) := by decide +kernel
theorem dX1_takeTooth_79 : decode cX1_takeTooth 79 = .ok (.return_, 1) := by decide +kernel
abbrev R_X1_takeTooth : Room := ({ frames := 0, cells := 0, slots := 0, locals := 0 } : Room)
def b_X1_takeTooth_52 (gT : Gs) (gP0 : Gs) : Option (Gs) :=
  some (sI gT 5 (4 : Int32))
def f_X1_takeTooth (gT : Gs) (gP0 : Gs) (x1 : Int32) : Option (Gs) :=
  if ((gI gT 4) - (1 : Int32)) < 0 then (some gT) else (if x1 < 0 then (some gT) else (if x1 < (gI gP0 6) then (grd (inB ((gI gT 4) - (1 : Int32)) 512) (if (gLA gT 2 ((gI gT 4) - (1 : Int32)).toNatClampNeg) < (0 : Int64) then (b_X1_takeTooth_52 gT gP0) else (grd (inB x1 8) (if (gLA gT 2 ((gI gT 4) - (1 : Int32)).toNatClampNeg) < ((gIA gP0 13 x1.toNatClampNeg).toInt64) then (grd (inB ((x1 * (24 : Int32)) + ((gLA gT 2 ((gI gT 4) - (1 : Int32)).toNatClampNeg).toInt32)) 192) (grd (inB ((gI gT 4) - (1 : Int32)) 512) (some (sDA gT 3 (vf_upd (gDA gT 3) ((gI gT 4) - (1 : Int32)).toNatClampNeg (gDA gP0 12 ((x1 * (24 : Int32)) + ((gLA gT 2 ((gI gT 4) - (1 : Int32)).toNatClampNeg).toInt32)).toNatClampNeg)))))) else (b_X1_takeTooth_52 gT gP0))))) else (some gT)))
def S_X1_takeTooth_52 (l : Launch) (D : Dx) (hT : Nat) (aT : Nat → Nat) (yT : Nat → ClassId) (hP0 : Nat) (aP0 : Nat → Nat) (yP0 : Nat → ClassId) (fn : Gs → Gs → Option (Gs)) : Prop :=
  ∀ {p : Program} {e : Env} {s : State} {m : MethodId} {args : Array Value} {below : List Frame} {meth : Method} {c : Code} {H : Heap} {locs : List Loc} {A : Nat → Prop} {ls : Array Slot} {gT : Gs} {gP0 : Gs} {q : Gs}, Cx p s m args meth c cX1_takeTooth none 6 RX1 lw_all → Hx D (tX1 yT ++ (tX4 yP0)) A s H locs (wX1 hT aT yT gT ++ (wX4 hP0 aP0 yP0 gP0)) → lv_has ls 6 [(0, .ref hT)] → fn gT gP0 = some q → W p l e R_X1_takeTooth s m args below meth c H locs 0 0 (MQ below (QV D A (wX1 hT aT yT q ++ (wX4 hP0 aP0 yP0 gP0))) args s 0 0 A) (F0 m 52 ls [])
set_option maxHeartbeats 4000000 in
set_option maxRecDepth 100000 in
theorem k_X1_takeTooth_52 (l : Launch) (D : Dx) (hT : Nat) (aT : Nat → Nat) (yT : Nat → ClassId) (hP0 : Nat) (aP0 : Nat → Nat) (yP0 : Nat → ClassId) : S_X1_takeTooth_52 l D hT aT yT hP0 aP0 yP0 (b_X1_takeTooth_52) := by
  intro p e s m args below meth c H locs A ls gT gP0 q C X hl hF
  obtain ⟨hx, hb, hr, hml, hown, hts, hlk⟩ := id C
  unfold b_X1_takeTooth_52 at hF
  refine lv_aload_n hx hb dX1_takeTooth_52 rfl (lv_at hl 0 rfl) ?_
  refine lv_iconst (v := (4 : Int32)) hx hb dX1_takeTooth_53 (by decide) ?_
  refine va_put (D := D.1) (ci := 1) (v := .int (4 : Int32)) (ty := .int) (C := RX1) (T := TX1) (N := 7) hx hb hts wi_X1 tyX1 tyX1_ok nmX1 hown X.1 X.2.1 X.2.2.1 X.2.2.2.1 0 rfl rfl 5 (by decide) (hts _ q1_144) (fun _ h9 => h9) rfl (by decide +kernel) rfl rfl (by rw [List.length_map, List.length_range]; decide) dX1_takeTooth_54 (fun H locs hP hD hS => ?_)
  have X : Hx D (tX1 yT ++ (tX4 yP0)) A s H locs (wX1 hT aT yT (sI gT 5 (4 : Int32)) ++ (wX4 hP0 aP0 yP0 gP0)) := Hx_set X (set_l (by rw [wG_len (m := 3) rfl]; decide) (wG_sI (k := 5) rfl)) hP hD hS
  refine lv_goto (tgt := 79) hx hb dX1_takeTooth_57 (by decide) ?_
  have hq := Option.some.inj hF
  subst hq
  exact rt_v C X dX1_takeTooth_79
set_option maxHeartbeats 4000000 in
set_option maxRecDepth 100000 in
theorem c_X1_takeTooth (l : Launch) (D : Dx) (hT : Nat) (aT : Nat → Nat) (yT : Nat → ClassId) (hP0 : Nat) (aP0 : Nat → Nat) (yP0 : Nat → ClassId) (gT : Gs) (gP0 : Gs) (x1 : Int32) (q : Gs) (hF : f_X1_takeTooth gT gP0 x1 = some q) (sz : Nat) : Met l yX1_takeTooth (ws_ yX1_takeTooth cX1_takeTooth 6 none) R_X1_takeTooth (PC D (tX1 yT ++ (tX4 yP0)) [.ref hT, .ref hP0, .int x1] (wX1 hT aT yT gT ++ (wX4 hP0 aP0 yP0 gP0)) sz) (QV D (va_A (wX1 hT aT yT gT ++ (wX4 hP0 aP0 yP0 gP0)) sz) (wX1 hT aT yT q ++ (wX4 hP0 aP0 yP0 gP0))) 0 0 (va_A (wX1 hT aT yT gT ++ (wX4 hP0 aP0 yP0 gP0)) sz) := by
  refine Met.ofW (cc := cX1_takeTooth) (maxL := 6) (ret := none) (by decide) rfl ?_
  intro p e s m args below meth c s₁ B hml hv
  obtain ⟨rfl, hsz, hP, hK, hD, hN⟩ := hv
  subst hsz
  have C : Cx p s m _ meth c cX1_takeTooth none 6 RX1 lw_all := Cx_of B hml
  have X := Hx_start hP hK hD hN
  obtain ⟨hx, hb, hr, -, hown, hts, hlk⟩ := id C
  generalize va_A (wX1 hT aT yT gT ++ (wX4 hP0 aP0 yP0 gP0)) s.heap.size = A at X ⊢
  have hl := lv_entry ([.ref hT, .ref hP0, .int x1]) (n := 6) (Nat.le_of_ble_eq_true rfl)
  rw [lg_entry_eq]
  generalize (lg_sl ([.ref hT, .ref hP0, .int x1]) ++ List.replicate (6 - (lg_sl ([.ref hT, .ref hP0, .int x1])).length) Slot.unset).toArray = ls at hl ⊢
  have hl : lv_has ls 6 [(0, .ref hT), (1, .ref hP0), (2, .int x1)] := hl
  unfold f_X1_takeTooth at hF
  refine lv_aload_n hx hb dX1_takeTooth_0 rfl (lv_at hl 0 rfl) ?_
  refine va_get (D := D.1) (ci := 1) (v := .int (gI gT 4)) (C := RX1) (T := TX1) (N := 7) hx hb hts wi_X1 hown X.1 X.2.1 0 rfl rfl 4 (by decide) (hts _ q1_143) (fun _ h9 => h9) (fl_get (by decide)) dX1_takeTooth_1 ?_
  refine lv_iconst (v := (1 : Int32)) hx hb dX1_takeTooth_4 (by decide) ?_
  refine lv_isub hx hb dX1_takeTooth_5 ?_
  refine lv_istore_n (lv' := [(3, .int ((gI gT 4) - (1 : Int32))), (0, .ref hT), (1, .ref hP0), (2, .int x1)]) hx hb dX1_takeTooth_6 rfl hl (by decide) rfl (fun ls hl => ?_)
  refine lv_iload_n hx hb dX1_takeTooth_7 rfl (lv_at hl 0 rfl) ?_
  refine lv_if_lt (tgt := 23) hx hb dX1_takeTooth_8 (by decide) (fun c => ?_) (fun c => ?_)
  · replace hF := iT c hF
    have hq := Option.some.inj hF
    subst hq
    exact rt_v C X dX1_takeTooth_23
  · replace hF := iF c hF
    refine lv_iload_n hx hb dX1_takeTooth_11 rfl (lv_at hl 3 rfl) ?_
    refine lv_if_lt (tgt := 23) hx hb dX1_takeTooth_12 (by decide) (fun c => ?_) (fun c => ?_)
    · replace hF := iT c hF
      have hq := Option.some.inj hF
      subst hq
      exact rt_v C X dX1_takeTooth_23
    · replace hF := iF c hF
      refine lv_iload_n hx hb dX1_takeTooth_15 rfl (lv_at hl 3 rfl) ?_
      refine lv_aload_n hx hb dX1_takeTooth_16 rfl (lv_at hl 2 rfl) ?_
      refine va_getN (D := D.1) (ci := 4) (v := .int (gI gP0 6)) (C := RX4) (T := TX4) (N := 14) hx hb hts wi_X4 hown X.1 X.2.1 3 rfl rfl 6 (by decide) (X.2.2.2.2.2.1.use q2_92 rfl) (fun _ h9 => h9) (fl_get (by decide)) dX1_takeTooth_17 ?_
      refine lv_icmp_lt (tgt := 24) hx hb dX1_takeTooth_20 (by decide) (fun c => ?_) (fun c => ?_)
      · replace hF := iT c hF
        refine lv_aload_n hx hb dX1_takeTooth_24 rfl (lv_at hl 1 rfl) ?_
        refine va_get (D := D.1) (ci := 1) (v := .ref (aT 2)) (C := RX1) (T := TX1) (N := 7) hx hb hts wi_X1 hown X.1 X.2.1 0 rfl rfl 2 (by decide) (hts _ q1_139) (fun _ h9 => h9) (fl_get (by decide)) dX1_takeTooth_25 ?_
        refine lv_iload_n hx hb dX1_takeTooth_28 rfl (lv_at hl 0 rfl) ?_
        obtain ⟨h_1, hF⟩ := grd_some hF
        refine va_lald (D := D.1) (f := gLA gT 2) hx hb X.1 X.2.1 1 0 rfl rfl (inB_ok h_1) dX1_takeTooth_29 ?_
        refine lv_lstore (lv' := [(4, .long (gLA gT 2 ((gI gT 4) - (1 : Int32)).toNatClampNeg)), (3, .int ((gI gT 4) - (1 : Int32))), (0, .ref hT), (1, .ref hP0), (2, .int x1)]) hx hb dX1_takeTooth_30 hl (by decide) rfl (fun ls hl => ?_)
        refine lv_lload hx hb dX1_takeTooth_32 (lv_at hl 0 rfl) ?_
        refine lv_lconst (v := (0 : Int64)) hx hb dX1_takeTooth_34 (by decide) ?_
        refine W.lcmp hx hb dX1_takeTooth_35 ?_
        refine lv_if_lt (tgt := 52) hx hb dX1_takeTooth_36 (by decide) (fun c => ?_) (fun c => ?_)
        · have c := (lg_cmp_lt _ _).mp c
          replace hF := iT c hF
          exact (k_X1_takeTooth_52 l D hT aT yT hP0 aP0 yP0) C X (lv_sub hl [2] rfl) hF
        · have c := fun h => c ((lg_cmp_lt _ _).mpr h)
          replace hF := iF c hF
          refine lv_lload hx hb dX1_takeTooth_39 (lv_at hl 0 rfl) ?_
          refine lv_aload_n hx hb dX1_takeTooth_41 rfl (lv_at hl 3 rfl) ?_
          refine va_getN (D := D.1) (ci := 4) (v := .ref (aP0 13)) (C := RX4) (T := TX4) (N := 14) hx hb hts wi_X4 hown X.1 X.2.1 3 rfl rfl 13 (by decide) (X.2.2.2.2.2.1.use q2_115 rfl) (fun _ h9 => h9) (fl_get (by decide)) dX1_takeTooth_42 ?_
          refine lv_iload_n hx hb dX1_takeTooth_45 rfl (lv_at hl 4 rfl) ?_
          obtain ⟨h_2, hF⟩ := grd_some hF
          refine va_iald (D := D.1) (f := gIA gP0 13) hx hb X.1 X.2.1 13 11 rfl rfl (inB_ok h_2) dX1_takeTooth_46 ?_
          refine lv_i2l hx hb dX1_takeTooth_47 rfl ?_
          refine W.lcmp hx hb dX1_takeTooth_48 ?_
          refine lv_if_lt (tgt := 60) hx hb dX1_takeTooth_49 (by decide) (fun c => ?_) (fun c => ?_)
          · have c := (lg_cmp_lt _ _).mp c
            replace hF := iT c hF
            refine lv_aload_n hx hb dX1_takeTooth_60 rfl (lv_at hl 2 rfl) ?_
            refine va_get (D := D.1) (ci := 1) (v := .ref (aT 3)) (C := RX1) (T := TX1) (N := 7) hx hb hts wi_X1 hown X.1 X.2.1 0 rfl rfl 3 (by decide) (hts _ q1_141) (fun _ h9 => h9) (fl_get (by decide)) dX1_takeTooth_61 ?_
            refine lv_iload_n hx hb dX1_takeTooth_64 rfl (lv_at hl 1 rfl) ?_
            refine lv_aload_n hx hb dX1_takeTooth_65 rfl (lv_at hl 3 rfl) ?_
            refine va_getN (D := D.1) (ci := 4) (v := .ref (aP0 12)) (C := RX4) (T := TX4) (N := 14) hx hb hts wi_X4 hown X.1 X.2.1 3 rfl rfl 12 (by decide) (X.2.2.2.2.2.1.use q2_112 rfl) (fun _ h9 => h9) (fl_get (by decide)) dX1_takeTooth_66 ?_
            refine lv_iload_n hx hb dX1_takeTooth_69 rfl (lv_at hl 4 rfl) ?_
            refine lv_bipush (v := (24 : Int32)) hx hb dX1_takeTooth_70 (by decide) ?_
            refine lv_imul hx hb dX1_takeTooth_72 ?_
            refine lv_lload hx hb dX1_takeTooth_73 (lv_at hl 0 rfl) ?_
            refine lv_l2i hx hb dX1_takeTooth_75 rfl ?_
            refine lv_iadd hx hb dX1_takeTooth_76 ?_
            obtain ⟨h_3, hF⟩ := grd_some hF
            refine va_dald (D := D.1) (f := gDA gP0 12) hx hb X.1 X.2.1 12 10 rfl rfl (inB_ok h_3) dX1_takeTooth_77 ?_
            obtain ⟨h_4, hF⟩ := grd_some hF
            refine va_dast (D := D.1) (f := gDA gT 3) hx hb X.1 X.2.1 X.2.2.1 X.2.2.2.1 2 1 rfl rfl (inB_ok h_4) dX1_takeTooth_78 (fun H locs hP hD hS => ?_)
            have X : Hx D (tX1 yT ++ (tX4 yP0)) A s H locs (wX1 hT aT yT (sDA gT 3 (vf_upd (gDA gT 3) ((gI gT 4) - (1 : Int32)).toNatClampNeg (gDA gP0 12 ((x1 * (24 : Int32)) + ((gLA gT 2 ((gI gT 4) - (1 : Int32)).toNatClampNeg).toInt32)).toNatClampNeg))) ++ (wX4 hP0 aP0 yP0 gP0)) := Hx_set X (set_l (by rw [wG_len (m := 3) rfl]; decide) (wG_sDA (i := 1) (k := 3) ndX1 rfl rfl)) hP hD hS
            have hq := Option.some.inj hF
            subst hq
            exact rt_v C X dX1_takeTooth_79
          · have c := fun h => c ((lg_cmp_lt _ _).mpr h)
            replace hF := iF c hF
            exact (k_X1_takeTooth_52 l D hT aT yT hP0 aP0 yP0) C X (lv_sub hl [2] rfl) hF
      · replace hF := iF c hF
        have hq := Option.some.inj hF
        subst hq
        exact rt_v C X dX1_takeTooth_23

/-! ### X1_skip -/
theorem dX1_skip_0 : decode cX1_skip 0 = .ok (.aload_n 0, 1) := by decide +kernel
theorem dX1_skip_1 : decode cX1_skip 1 = .ok (.getfield 19, 3) := by decide +kernel
theorem dX1_skip_4 : decode cX1_skip 4 = .ok (.iconst 1, 1) := by decide +kernel
theorem dX1_skip_5 : decode cX1_skip 5 = .ok (.isub, 1) := by decide +kernel
theorem dX1_skip_6 : decode cX1_skip 6 = .ok (.istore 4, 2) := by decide +kernel
theorem dX1_skip_8 : decode cX1_skip 8 = .ok (.iload 4, 2) := by decide +kernel
theorem dX1_skip_10 : decode cX1_skip 10 = .ok (.ifCond .ge 5, 3) := by decide +kernel
theorem dX1_skip_13 : decode cX1_skip 13 = .ok (.iload_n 2, 1) := by decide +kernel
theorem dX1_skip_14 : decode cX1_skip 14 = .ok (.ireturn, 1) := by decide +kernel
theorem dX1_skip_15 : decode cX1_skip 15 = .ok (.iload_n 3, 1) := by decide +kernel
theorem dX1_skip_16 : decode cX1_skip 16 = .ok (.bipush 70, 2) := by decide +kernel
theorem dX1_skip_18 : decode cX1_skip 18 = .ok (.if_icmp .ne 32, 3) := by decide +kernel
theorem dX1_skip_21 : decode cX1_skip 21 = .ok (.aload_n 0, 1) := by decide +kernel
theorem dX1_skip_22 : decode cX1_skip 22 = .ok (.iload 4, 2) := by decide +kernel
theorem dX1_skip_24 : decode cX1_skip 24 = .ok (.aload_n 1, 1) := by decide +kernel
theorem dX1_skip_25 : decode cX1_skip 25 = .ok (.getfield 150, 3) := by decide +kernel
theorem dX1_skip_28 : decode cX1_skip 28 = .ok (.iload_n 2, 1) := by decide +kernel
theorem dX1_skip_29 : decode cX1_skip 29 = .ok (.iaload, 1) := by decide +kernel
theorem dX1_skip_30 : decode cX1_skip 30 = .ok (.aload_n 1, 1) := by decide +kernel
theorem dX1_skip_31 : decode cX1_skip 31 = .ok (.getfield 143, 3) := by decide +kernel
theorem dX1_skip_34 : decode cX1_skip 34 = .ok (.iload_n 2, 1) := by decide +kernel
theorem dX1_skip_35 : decode cX1_skip 35 = .ok (.iaload, 1) := by decide +kernel
theorem dX1_skip_36 : decode cX1_skip 36 = .ok (.invokevirtual 99, 3) := by decide +kernel
theorem dX1_skip_39 : decode cX1_skip 39 = .ok (.iload_n 2, 1) := by decide +kernel
theorem dX1_skip_40 : decode cX1_skip 40 = .ok (.aload_n 1, 1) := by decide +kernel
theorem dX1_skip_41 : decode cX1_skip 41 = .ok (.getfield 129, 3) := by decide +kernel
theorem dX1_skip_44 : decode cX1_skip 44 = .ok (.iload_n 2, 1) := by decide +kernel
theorem dX1_skip_45 : decode cX1_skip 45 = .ok (.iaload, 1) := by decide +kernel
theorem dX1_skip_46 : decode cX1_skip 46 = .ok (.invokestatic 160, 3) := by decide +kernel
theorem dX1_skip_49 : decode cX1_skip 49 = .ok (.ireturn, 1) := by decide +kernel
theorem dX1_skip_50 : decode cX1_skip 50 = .ok (.aload_n 0, 1) := by decide +kernel
theorem dX1_skip_51 : decode cX1_skip 51 = .ok (.getfield 9, 3) := by decide +kernel
theorem dX1_skip_54 : decode cX1_skip 54 = .ok (.iload 4, 2) := by decide +kernel
theorem dX1_skip_56 : decode cX1_skip 56 = .ok (.laload, 1) := by decide +kernel
theorem dX1_skip_57 : decode cX1_skip 57 = .ok (.lconst 0, 1) := by decide +kernel
theorem dX1_skip_58 : decode cX1_skip 58 = .ok (.lcmp, 1) := by decide +kernel
theorem dX1_skip_59 : decode cX1_skip 59 = .ok (.ifCond .eq 7, 3) := by decide +kernel
theorem dX1_skip_62 : decode cX1_skip 62 = .ok (.iconst 1, 1) := by decide +kernel
theorem dX1_skip_63 : decode cX1_skip 63 = .ok (.goto 4, 3) := by decide +kernel
theorem dX1_skip_66 : decode cX1_skip 66 = .ok (.iconst 0, 1) := by decide +kernel
theorem dX1_skip_67 : decode cX1_skip 67 = .ok (.istore 5, 2) := by decide +kernel
theorem dX1_skip_69 : decode cX1_skip 69 = .ok (.iload 5, 2) := by decide +kernel
theorem dX1_skip_71 : decode cX1_skip 71 = .ok (.iload_n 3, 1) := by decide +kernel
theorem dX1_skip_72 : decode cX1_skip 72 = .ok (.bipush 68, 2) := by decide +kernel
theorem dX1_skip_74 : decode cX1_skip 74 = .ok (.if_icmp .ne 7, 3) := by decide +kernel
theorem dX1_skip_77 : decode cX1_skip 77 = .ok (.iconst 1, 1) := by decide +kernel
theorem dX1_skip_78 : decode cX1_skip 78 = .ok (.goto 4, 3) := by decide +kernel
theorem dX1_skip_81 : decode cX1_skip 81 = .ok (.iconst 0, 1) := by decide +kernel
theorem dX1_skip_82 : decode cX1_skip 82 = .ok (.if_icmp .ne 7, 3) := by decide +kernel
theorem dX1_skip_85 : decode cX1_skip 85 = .ok (.iconst 1, 1) := by decide +kernel
theorem dX1_skip_86 : decode cX1_skip 86 = .ok (.goto 4, 3) := by decide +kernel
theorem dX1_skip_89 : decode cX1_skip 89 = .ok (.iconst 0, 1) := by decide +kernel
theorem dX1_skip_90 : decode cX1_skip 90 = .ok (.istore 6, 2) := by decide +kernel
theorem dX1_skip_92 : decode cX1_skip 92 = .ok (.iload 6, 2) := by decide +kernel
theorem dX1_skip_94 : decode cX1_skip 94 = .ok (.ifCond .eq 9, 3) := by decide +kernel
theorem dX1_skip_97 : decode cX1_skip 97 = .ok (.iload_n 3, 1) := by decide +kernel
theorem dX1_skip_98 : decode cX1_skip 98 = .ok (.bipush 69, 2) := by decide +kernel
theorem dX1_skip_100 : decode cX1_skip 100 = .ok (.if_icmp .ne 13, 3) := by decide +kernel
theorem dX1_skip_103 : decode cX1_skip 103 = .ok (.aload_n 0, 1) := by decide +kernel
theorem dX1_skip_104 : decode cX1_skip 104 = .ok (.dup, 1) := by decide +kernel
theorem dX1_skip_105 : decode cX1_skip 105 = .ok (.getfield 19, 3) := by decide +kernel
theorem dX1_skip_108 : decode cX1_skip 108 = .ok (.iconst 1, 1) := by decide +kernel
theorem dX1_skip_109 : decode cX1_skip 109 = .ok (.isub, 1) := by decide +kernel
theorem dX1_skip_110 : decode cX1_skip 110 = .ok (.putfield 19, 3) := by decide +kernel
theorem dX1_skip_113 : decode cX1_skip 113 = .ok (.iload 6, 2) := by decide +kernel
theorem dX1_skip_115 : decode cX1_skip 115 = .ok (.ifCond .eq 16, 3) := by decide +kernel
theorem dX1_skip_118 : decode cX1_skip 118 = .ok (.iload_n 2, 1) := by decide +kernel
theorem dX1_skip_119 : decode cX1_skip 119 = .ok (.aload_n 1, 1) := by decide +kernel
theorem dX1_skip_120 : decode cX1_skip 120 = .ok (.getfield 129, 3) := by decide +kernel
theorem dX1_skip_123 : decode cX1_skip 123 = .ok (.iload_n 2, 1) := by decide +kernel
theorem dX1_skip_124 : decode cX1_skip 124 = .ok (.iaload, 1) := by decide +kernel
theorem dX1_skip_125 : decode cX1_skip 125 = .ok (.invokestatic 160, 3) := by decide +kernel
theorem dX1_skip_128 : decode cX1_skip 128 = .ok (.goto 4, 3) := by decide +kernel
theorem dX1_skip_131 : decode cX1_skip 131 = .ok (.iload_n 2, 1) := by decide +kernel
theorem dX1_skip_132 : decode cX1_skip 132 = .ok (.ireturn, 1) := by decide +kernel
abbrev R_X1_skip : Room := ({ frames := 2, cells := 0, slots := 0, locals := 64 } : Room)
def b_X1_skip_113 (gT : Gs) (gP0 : Gs) (v2 : Int32) (v6 : Int32) : Option (Int32 × Gs) :=
  if v6 = 0 then (some (v2, gT)) else (grd (inB v2 840) (some ((if v2 < (gIA gP0 5 v2.toNatClampNeg) then (gIA gP0 5 v2.toNatClampNeg) else v2), gT)))
def b_X1_skip_103 (gT : Gs) (gP0 : Gs) (v2 : Int32) (v6 : Int32) : Option (Int32 × Gs) :=
  b_X1_skip_113 (sI gT 4 ((gI gT 4) - (1 : Int32))) gP0 v2 v6
def b_X1_skip_90 (gT : Gs) (gP0 : Gs) (v2 : Int32) (v3 : Int32) (s0 : Int32) : Option (Int32 × Gs) :=
  if s0 = 0 then (b_X1_skip_103 gT gP0 v2 s0) else (if v3 = (69 : Int32) then (b_X1_skip_103 gT gP0 v2 s0) else (b_X1_skip_113 gT gP0 v2 s0))
def b_X1_skip_82 (gT : Gs) (gP0 : Gs) (v2 : Int32) (v3 : Int32) (s0 : Int32) (s1 : Int32) : Option (Int32 × Gs) :=
  if s1 = s0 then (b_X1_skip_90 gT gP0 v2 v3 (1 : Int32)) else (b_X1_skip_90 gT gP0 v2 v3 (0 : Int32))
def b_X1_skip_67 (gT : Gs) (gP0 : Gs) (v2 : Int32) (v3 : Int32) (s0 : Int32) : Option (Int32 × Gs) :=
  if v3 = (68 : Int32) then (b_X1_skip_82 gT gP0 v2 v3 (1 : Int32) s0) else (b_X1_skip_82 gT gP0 v2 v3 (0 : Int32) s0)
def f_X1_skip (gT : Gs) (gP0 : Gs) (x1 : Int32) (x2 : Int32) : Option (Int32 × Gs) :=
  if 0 ≤ ((gI gT 4) - (1 : Int32)) then (if x2 = (70 : Int32) then (grd (inB x1 840) (grd (inB x1 840) (bnd (f_X1_become gT ((gI gT 4) - (1 : Int32)) (gIA gP0 3 x1.toNatClampNeg) (gIA gP0 2 x1.toNatClampNeg)) (fun q_5 => grd (inB x1 840) (some ((if x1 < (gIA gP0 5 x1.toNatClampNeg) then (gIA gP0 5 x1.toNatClampNeg) else x1), q_5)))))) else (grd (inB ((gI gT 4) - (1 : Int32)) 512) (if (gLA gT 2 ((gI gT 4) - (1 : Int32)).toNatClampNeg) = (0 : Int64) then (b_X1_skip_67 gT gP0 x1 x2 (0 : Int32)) else (b_X1_skip_67 gT gP0 x1 x2 (1 : Int32))))) else (some (x1, gT))
def S_X1_skip_113 (l : Launch) (D : Dx) (hT : Nat) (aT : Nat → Nat) (yT : Nat → ClassId) (hP0 : Nat) (aP0 : Nat → Nat) (yP0 : Nat → ClassId) (fn : Gs → Gs → Int32 → Int32 → Option (Int32 × Gs)) : Prop :=
  ∀ {p : Program} {e : Env} {s : State} {m : MethodId} {args : Array Value} {below : List Frame} {meth : Method} {c : Code} {H : Heap} {locs : List Loc} {A : Nat → Prop} {ls : Array Slot} {gT : Gs} {gP0 : Gs} {v2 : Int32} {v6 : Int32} {q : Int32 × Gs}, Cx p s m args meth c cX1_skip (some .int) 7 RX1 lw_all → Hx D (tX1 yT ++ (tX0 yP0)) A s H locs (wX1 hT aT yT gT ++ (wX0 hP0 aP0 yP0 gP0)) → lv_has ls 7 [(1, .ref hP0), (2, .int v2), (6, .int v6)] → fn gT gP0 v2 v6 = some q → W p l e R_X1_skip s m args below meth c H locs 0 0 (MQ below (QI D A (wX1 hT aT yT q.2 ++ (wX0 hP0 aP0 yP0 gP0)) q.1) args s 0 0 A) (F0 m 113 ls [])
def S_X1_skip_103 (l : Launch) (D : Dx) (hT : Nat) (aT : Nat → Nat) (yT : Nat → ClassId) (hP0 : Nat) (aP0 : Nat → Nat) (yP0 : Nat → ClassId) (fn : Gs → Gs → Int32 → Int32 → Option (Int32 × Gs)) : Prop :=
  ∀ {p : Program} {e : Env} {s : State} {m : MethodId} {args : Array Value} {below : List Frame} {meth : Method} {c : Code} {H : Heap} {locs : List Loc} {A : Nat → Prop} {ls : Array Slot} {gT : Gs} {gP0 : Gs} {v2 : Int32} {v6 : Int32} {q : Int32 × Gs}, Cx p s m args meth c cX1_skip (some .int) 7 RX1 lw_all → Hx D (tX1 yT ++ (tX0 yP0)) A s H locs (wX1 hT aT yT gT ++ (wX0 hP0 aP0 yP0 gP0)) → lv_has ls 7 [(0, .ref hT), (1, .ref hP0), (2, .int v2), (6, .int v6)] → fn gT gP0 v2 v6 = some q → W p l e R_X1_skip s m args below meth c H locs 0 0 (MQ below (QI D A (wX1 hT aT yT q.2 ++ (wX0 hP0 aP0 yP0 gP0)) q.1) args s 0 0 A) (F0 m 103 ls [])
def S_X1_skip_90 (l : Launch) (D : Dx) (hT : Nat) (aT : Nat → Nat) (yT : Nat → ClassId) (hP0 : Nat) (aP0 : Nat → Nat) (yP0 : Nat → ClassId) (fn : Gs → Gs → Int32 → Int32 → Int32 → Option (Int32 × Gs)) : Prop :=
  ∀ {p : Program} {e : Env} {s : State} {m : MethodId} {args : Array Value} {below : List Frame} {meth : Method} {c : Code} {H : Heap} {locs : List Loc} {A : Nat → Prop} {ls : Array Slot} {gT : Gs} {gP0 : Gs} {v2 : Int32} {v3 : Int32} {s0 : Int32} {q : Int32 × Gs}, Cx p s m args meth c cX1_skip (some .int) 7 RX1 lw_all → Hx D (tX1 yT ++ (tX0 yP0)) A s H locs (wX1 hT aT yT gT ++ (wX0 hP0 aP0 yP0 gP0)) → lv_has ls 7 [(0, .ref hT), (1, .ref hP0), (2, .int v2), (3, .int v3)] → fn gT gP0 v2 v3 s0 = some q → W p l e R_X1_skip s m args below meth c H locs 0 0 (MQ below (QI D A (wX1 hT aT yT q.2 ++ (wX0 hP0 aP0 yP0 gP0)) q.1) args s 0 0 A) (F0 m 90 ls [.int s0])
def S_X1_skip_82 (l : Launch) (D : Dx) (hT : Nat) (aT : Nat → Nat) (yT : Nat → ClassId) (hP0 : Nat) (aP0 : Nat → Nat) (yP0 : Nat → ClassId) (fn : Gs → Gs → Int32 → Int32 → Int32 → Int32 → Option (Int32 × Gs)) : Prop :=
  ∀ {p : Program} {e : Env} {s : State} {m : MethodId} {args : Array Value} {below : List Frame} {meth : Method} {c : Code} {H : Heap} {locs : List Loc} {A : Nat → Prop} {ls : Array Slot} {gT : Gs} {gP0 : Gs} {v2 : Int32} {v3 : Int32} {s0 : Int32} {s1 : Int32} {q : Int32 × Gs}, Cx p s m args meth c cX1_skip (some .int) 7 RX1 lw_all → Hx D (tX1 yT ++ (tX0 yP0)) A s H locs (wX1 hT aT yT gT ++ (wX0 hP0 aP0 yP0 gP0)) → lv_has ls 7 [(0, .ref hT), (1, .ref hP0), (2, .int v2), (3, .int v3)] → fn gT gP0 v2 v3 s0 s1 = some q → W p l e R_X1_skip s m args below meth c H locs 0 0 (MQ below (QI D A (wX1 hT aT yT q.2 ++ (wX0 hP0 aP0 yP0 gP0)) q.1) args s 0 0 A) (F0 m 82 ls [.int s0, .int s1])
def S_X1_skip_67 (l : Launch) (D : Dx) (hT : Nat) (aT : Nat → Nat) (yT : Nat → ClassId) (hP0 : Nat) (aP0 : Nat → Nat) (yP0 : Nat → ClassId) (fn : Gs → Gs → Int32 → Int32 → Int32 → Option (Int32 × Gs)) : Prop :=
  ∀ {p : Program} {e : Env} {s : State} {m : MethodId} {args : Array Value} {below : List Frame} {meth : Method} {c : Code} {H : Heap} {locs : List Loc} {A : Nat → Prop} {ls : Array Slot} {gT : Gs} {gP0 : Gs} {v2 : Int32} {v3 : Int32} {s0 : Int32} {q : Int32 × Gs}, Cx p s m args meth c cX1_skip (some .int) 7 RX1 lw_all → Hx D (tX1 yT ++ (tX0 yP0)) A s H locs (wX1 hT aT yT gT ++ (wX0 hP0 aP0 yP0 gP0)) → lv_has ls 7 [(0, .ref hT), (1, .ref hP0), (2, .int v2), (3, .int v3)] → fn gT gP0 v2 v3 s0 = some q → W p l e R_X1_skip s m args below meth c H locs 0 0 (MQ below (QI D A (wX1 hT aT yT q.2 ++ (wX0 hP0 aP0 yP0 gP0)) q.1) args s 0 0 A) (F0 m 67 ls [.int s0])
set_option maxHeartbeats 4000000 in
set_option maxRecDepth 100000 in
theorem k_X1_skip_113 (l : Launch) (D : Dx) (hT : Nat) (aT : Nat → Nat) (yT : Nat → ClassId) (hP0 : Nat) (aP0 : Nat → Nat) (yP0 : Nat → ClassId) : S_X1_skip_113 l D hT aT yT hP0 aP0 yP0 (b_X1_skip_113) := by
  intro p e s m args below meth c H locs A ls gT gP0 v2 v6 q C X hl hF
  obtain ⟨hx, hb, hr, hml, hown, hts, hlk⟩ := id C
  unfold b_X1_skip_113 at hF
  refine lv_iload hx hb dX1_skip_113 (lv_at hl 2 rfl) ?_
  refine lv_if_eq (tgt := 131) hx hb dX1_skip_115 (by decide) (fun c => ?_) (fun c => ?_)
  · replace hF := iT c hF
    refine lv_iload_n hx hb dX1_skip_131 rfl (lv_at hl 1 rfl) ?_
    have hq := Option.some.inj hF
    subst hq
    exact rt_i C X dX1_skip_132
  · replace hF := iF c hF
    refine lv_iload_n hx hb dX1_skip_118 rfl (lv_at hl 1 rfl) ?_
    refine lv_aload_n hx hb dX1_skip_119 rfl (lv_at hl 0 rfl) ?_
    refine va_getN (D := D.1) (ci := 0) (v := .ref (aP0 5)) (C := RX0) (T := TX0) (N := 19) hx hb hts wi_X0 hown X.1 X.2.1 3 rfl rfl 5 (by decide) (X.2.2.2.2.2.1.use q1_228 rfl) (fun _ h9 => h9) (fl_get (by decide)) dX1_skip_120 ?_
    refine lv_iload_n hx hb dX1_skip_123 rfl (lv_at hl 1 rfl) ?_
    obtain ⟨h_2, hF⟩ := grd_some hF
    refine va_iald (D := D.1) (f := gIA gP0 5) hx hb X.1 X.2.1 9 7 rfl rfl (inB_ok h_2) dX1_skip_124 ?_
    refine va_mmax hx hb (by rw [hml]; exact hl.1.symm) hown (hts _ q5_58) (hts _ q4_13) (hts _ q1_14) (hts _ q4_14) (Nat.le_of_ble_eq_true rfl) (Nat.le_of_ble_eq_true rfl) (Nat.le_of_ble_eq_true rfl) (Nat.le_of_ble_eq_true rfl) dX1_skip_125 ?_
    refine lv_goto (tgt := 132) hx hb dX1_skip_128 (by decide) ?_
    have hq := Option.some.inj hF
    subst hq
    exact rt_i C X dX1_skip_132
set_option maxHeartbeats 4000000 in
set_option maxRecDepth 100000 in
theorem k_X1_skip_103 (l : Launch) (D : Dx) (hT : Nat) (aT : Nat → Nat) (yT : Nat → ClassId) (hP0 : Nat) (aP0 : Nat → Nat) (yP0 : Nat → ClassId) : S_X1_skip_103 l D hT aT yT hP0 aP0 yP0 (b_X1_skip_103) := by
  intro p e s m args below meth c H locs A ls gT gP0 v2 v6 q C X hl hF
  obtain ⟨hx, hb, hr, hml, hown, hts, hlk⟩ := id C
  unfold b_X1_skip_103 at hF
  refine lv_aload_n hx hb dX1_skip_103 rfl (lv_at hl 0 rfl) ?_
  refine lv_dup hx hb dX1_skip_104 rfl ?_
  refine va_get (D := D.1) (ci := 1) (v := .int (gI gT 4)) (C := RX1) (T := TX1) (N := 7) hx hb hts wi_X1 hown X.1 X.2.1 0 rfl rfl 4 (by decide) (hts _ q1_143) (fun _ h9 => h9) (fl_get (by decide)) dX1_skip_105 ?_
  refine lv_iconst (v := (1 : Int32)) hx hb dX1_skip_108 (by decide) ?_
  refine lv_isub hx hb dX1_skip_109 ?_
  refine va_put (D := D.1) (ci := 1) (v := .int ((gI gT 4) - (1 : Int32))) (ty := .int) (C := RX1) (T := TX1) (N := 7) hx hb hts wi_X1 tyX1 tyX1_ok nmX1 hown X.1 X.2.1 X.2.2.1 X.2.2.2.1 0 rfl rfl 4 (by decide) (hts _ q1_143) (fun _ h9 => h9) rfl (by decide +kernel) rfl rfl (by rw [List.length_map, List.length_range]; decide) dX1_skip_110 (fun H locs hP hD hS => ?_)
  have X : Hx D (tX1 yT ++ (tX0 yP0)) A s H locs (wX1 hT aT yT (sI gT 4 ((gI gT 4) - (1 : Int32))) ++ (wX0 hP0 aP0 yP0 gP0)) := Hx_set X (set_l (by rw [wG_len (m := 3) rfl]; decide) (wG_sI (k := 4) rfl)) hP hD hS
  exact (k_X1_skip_113 l D hT aT yT hP0 aP0 yP0) C X (lv_sub hl [1, 2, 3] rfl) hF
set_option maxHeartbeats 4000000 in
set_option maxRecDepth 100000 in
theorem k_X1_skip_90 (l : Launch) (D : Dx) (hT : Nat) (aT : Nat → Nat) (yT : Nat → ClassId) (hP0 : Nat) (aP0 : Nat → Nat) (yP0 : Nat → ClassId) : S_X1_skip_90 l D hT aT yT hP0 aP0 yP0 (b_X1_skip_90) := by
  intro p e s m args below meth c H locs A ls gT gP0 v2 v3 s0 q C X hl hF
  obtain ⟨hx, hb, hr, hml, hown, hts, hlk⟩ := id C
  unfold b_X1_skip_90 at hF
  refine lv_istore (lv' := [(6, .int s0), (0, .ref hT), (1, .ref hP0), (2, .int v2), (3, .int v3)]) hx hb dX1_skip_90 hl (by decide) rfl (fun ls hl => ?_)
  refine lv_iload hx hb dX1_skip_92 (lv_at hl 0 rfl) ?_
  refine lv_if_eq (tgt := 103) hx hb dX1_skip_94 (by decide) (fun c => ?_) (fun c => ?_)
  · replace hF := iT c hF
    exact (k_X1_skip_103 l D hT aT yT hP0 aP0 yP0) C X (lv_sub hl [1, 2, 3, 0] rfl) hF
  · replace hF := iF c hF
    refine lv_iload_n hx hb dX1_skip_97 rfl (lv_at hl 4 rfl) ?_
    refine lv_bipush (v := (69 : Int32)) hx hb dX1_skip_98 (by decide) ?_
    refine lv_icmp_ne (tgt := 113) hx hb dX1_skip_100 (by decide) (fun c => ?_) (fun c => ?_)
    · replace hF := iF c hF
      exact (k_X1_skip_113 l D hT aT yT hP0 aP0 yP0) C X (lv_sub hl [2, 3, 0] rfl) hF
    · replace hF := iT c hF
      exact (k_X1_skip_103 l D hT aT yT hP0 aP0 yP0) C X (lv_sub hl [1, 2, 3, 0] rfl) hF
set_option maxHeartbeats 4000000 in
set_option maxRecDepth 100000 in
theorem k_X1_skip_82 (l : Launch) (D : Dx) (hT : Nat) (aT : Nat → Nat) (yT : Nat → ClassId) (hP0 : Nat) (aP0 : Nat → Nat) (yP0 : Nat → ClassId) : S_X1_skip_82 l D hT aT yT hP0 aP0 yP0 (b_X1_skip_82) := by
  intro p e s m args below meth c H locs A ls gT gP0 v2 v3 s0 s1 q C X hl hF
  obtain ⟨hx, hb, hr, hml, hown, hts, hlk⟩ := id C
  unfold b_X1_skip_82 at hF
  refine lv_icmp_ne (tgt := 89) hx hb dX1_skip_82 (by decide) (fun c => ?_) (fun c => ?_)
  · replace hF := iF c hF
    refine lv_iconst (v := (0 : Int32)) hx hb dX1_skip_89 (by decide) ?_
    exact (k_X1_skip_90 l D hT aT yT hP0 aP0 yP0) C X (lv_sub hl [0, 1, 2, 3] rfl) hF
  · replace hF := iT c hF
    refine lv_iconst (v := (1 : Int32)) hx hb dX1_skip_85 (by decide) ?_
    refine lv_goto (tgt := 90) hx hb dX1_skip_86 (by decide) ?_
    exact (k_X1_skip_90 l D hT aT yT hP0 aP0 yP0) C X (lv_sub hl [0, 1, 2, 3] rfl) hF
set_option maxHeartbeats 4000000 in
set_option maxRecDepth 100000 in
theorem k_X1_skip_67 (l : Launch) (D : Dx) (hT : Nat) (aT : Nat → Nat) (yT : Nat → ClassId) (hP0 : Nat) (aP0 : Nat → Nat) (yP0 : Nat → ClassId) : S_X1_skip_67 l D hT aT yT hP0 aP0 yP0 (b_X1_skip_67) := by
  intro p e s m args below meth c H locs A ls gT gP0 v2 v3 s0 q C X hl hF
  obtain ⟨hx, hb, hr, hml, hown, hts, hlk⟩ := id C
  unfold b_X1_skip_67 at hF
  refine lv_istore (lv' := [(5, .int s0), (0, .ref hT), (1, .ref hP0), (2, .int v2), (3, .int v3)]) hx hb dX1_skip_67 hl (by decide) rfl (fun ls hl => ?_)
  refine lv_iload hx hb dX1_skip_69 (lv_at hl 0 rfl) ?_
  refine lv_iload_n hx hb dX1_skip_71 rfl (lv_at hl 4 rfl) ?_
  refine lv_bipush (v := (68 : Int32)) hx hb dX1_skip_72 (by decide) ?_
  refine lv_icmp_ne (tgt := 81) hx hb dX1_skip_74 (by decide) (fun c => ?_) (fun c => ?_)
  · replace hF := iF c hF
    refine lv_iconst (v := (0 : Int32)) hx hb dX1_skip_81 (by decide) ?_
    exact (k_X1_skip_82 l D hT aT yT hP0 aP0 yP0) C X (lv_sub hl [1, 2, 3, 4] rfl) hF
  · replace hF := iT c hF
    refine lv_iconst (v := (1 : Int32)) hx hb dX1_skip_77 (by decide) ?_
    refine lv_goto (tgt := 82) hx hb dX1_skip_78 (by decide) ?_
    exact (k_X1_skip_82 l D hT aT yT hP0 aP0 yP0) C X (lv_sub hl [1, 2, 3, 4] rfl) hF
set_option maxHeartbeats 4000000 in
set_option maxRecDepth 100000 in
theorem c_X1_skip (l : Launch) (D : Dx) (hT : Nat) (aT : Nat → Nat) (yT : Nat → ClassId) (hP0 : Nat) (aP0 : Nat → Nat) (yP0 : Nat → ClassId) (gT : Gs) (gP0 : Gs) (x1 : Int32) (x2 : Int32) (q : Int32 × Gs) (hF : f_X1_skip gT gP0 x1 x2 = some q) (sz : Nat) : Met l yX1_skip (ws_ yX1_skip cX1_skip 7 (some .int)) R_X1_skip (PC D (tX1 yT ++ (tX0 yP0)) [.ref hT, .ref hP0, .int x1, .int x2] (wX1 hT aT yT gT ++ (wX0 hP0 aP0 yP0 gP0)) sz) (QI D (va_A (wX1 hT aT yT gT ++ (wX0 hP0 aP0 yP0 gP0)) sz) (wX1 hT aT yT q.2 ++ (wX0 hP0 aP0 yP0 gP0)) q.1) 0 0 (va_A (wX1 hT aT yT gT ++ (wX0 hP0 aP0 yP0 gP0)) sz) := by
  refine Met.ofW (cc := cX1_skip) (maxL := 7) (ret := (some .int)) (by decide) rfl ?_
  intro p e s m args below meth c s₁ B hml hv
  obtain ⟨rfl, hsz, hP, hK, hD, hN⟩ := hv
  subst hsz
  have C : Cx p s m _ meth c cX1_skip (some .int) 7 RX1 lw_all := Cx_of B hml
  have X := Hx_start hP hK hD hN
  obtain ⟨hx, hb, hr, -, hown, hts, hlk⟩ := id C
  generalize va_A (wX1 hT aT yT gT ++ (wX0 hP0 aP0 yP0 gP0)) s.heap.size = A at X ⊢
  have hl := lv_entry ([.ref hT, .ref hP0, .int x1, .int x2]) (n := 7) (Nat.le_of_ble_eq_true rfl)
  rw [lg_entry_eq]
  generalize (lg_sl ([.ref hT, .ref hP0, .int x1, .int x2]) ++ List.replicate (7 - (lg_sl ([.ref hT, .ref hP0, .int x1, .int x2])).length) Slot.unset).toArray = ls at hl ⊢
  have hl : lv_has ls 7 [(0, .ref hT), (1, .ref hP0), (2, .int x1), (3, .int x2)] := hl
  unfold f_X1_skip at hF
  refine lv_aload_n hx hb dX1_skip_0 rfl (lv_at hl 0 rfl) ?_
  refine va_get (D := D.1) (ci := 1) (v := .int (gI gT 4)) (C := RX1) (T := TX1) (N := 7) hx hb hts wi_X1 hown X.1 X.2.1 0 rfl rfl 4 (by decide) (hts _ q1_143) (fun _ h9 => h9) (fl_get (by decide)) dX1_skip_1 ?_
  refine lv_iconst (v := (1 : Int32)) hx hb dX1_skip_4 (by decide) ?_
  refine lv_isub hx hb dX1_skip_5 ?_
  refine lv_istore (lv' := [(4, .int ((gI gT 4) - (1 : Int32))), (0, .ref hT), (1, .ref hP0), (2, .int x1), (3, .int x2)]) hx hb dX1_skip_6 hl (by decide) rfl (fun ls hl => ?_)
  refine lv_iload hx hb dX1_skip_8 (lv_at hl 0 rfl) ?_
  refine lv_if_ge (tgt := 15) hx hb dX1_skip_10 (by decide) (fun c => ?_) (fun c => ?_)
  · replace hF := iT c hF
    refine lv_iload_n hx hb dX1_skip_15 rfl (lv_at hl 4 rfl) ?_
    refine lv_bipush (v := (70 : Int32)) hx hb dX1_skip_16 (by decide) ?_
    refine lv_icmp_ne (tgt := 50) hx hb dX1_skip_18 (by decide) (fun c => ?_) (fun c => ?_)
    · replace hF := iF c hF
      refine lv_aload_n hx hb dX1_skip_50 rfl (lv_at hl 1 rfl) ?_
      refine va_get (D := D.1) (ci := 1) (v := .ref (aT 2)) (C := RX1) (T := TX1) (N := 7) hx hb hts wi_X1 hown X.1 X.2.1 0 rfl rfl 2 (by decide) (hts _ q1_139) (fun _ h9 => h9) (fl_get (by decide)) dX1_skip_51 ?_
      refine lv_iload hx hb dX1_skip_54 (lv_at hl 0 rfl) ?_
      obtain ⟨h_1, hF⟩ := grd_some hF
      refine va_lald (D := D.1) (f := gLA gT 2) hx hb X.1 X.2.1 1 0 rfl rfl (inB_ok h_1) dX1_skip_56 ?_
      refine lv_lconst (v := (0 : Int64)) hx hb dX1_skip_57 (by decide) ?_
      refine W.lcmp hx hb dX1_skip_58 ?_
      refine lv_if_eq (tgt := 66) hx hb dX1_skip_59 (by decide) (fun c => ?_) (fun c => ?_)
      · have c := (lg_cmp_eq _ _).mp c
        replace hF := iT c hF
        refine lv_iconst (v := (0 : Int32)) hx hb dX1_skip_66 (by decide) ?_
        exact (k_X1_skip_67 l D hT aT yT hP0 aP0 yP0) C X (lv_sub hl [1, 2, 3, 4] rfl) hF
      · have c := fun h => c ((lg_cmp_eq _ _).mpr h)
        replace hF := iF c hF
        refine lv_iconst (v := (1 : Int32)) hx hb dX1_skip_62 (by decide) ?_
        refine lv_goto (tgt := 67) hx hb dX1_skip_63 (by decide) ?_
        exact (k_X1_skip_67 l D hT aT yT hP0 aP0 yP0) C X (lv_sub hl [1, 2, 3, 4] rfl) hF
    · replace hF := iT c hF
      refine lv_aload_n hx hb dX1_skip_21 rfl (lv_at hl 1 rfl) ?_
      refine lv_iload hx hb dX1_skip_22 (lv_at hl 0 rfl) ?_
      refine lv_aload_n hx hb dX1_skip_24 rfl (lv_at hl 2 rfl) ?_
      refine va_getN (D := D.1) (ci := 0) (v := .ref (aP0 3)) (C := RX0) (T := TX0) (N := 19) hx hb hts wi_X0 hown X.1 X.2.1 3 rfl rfl 3 (by decide) (X.2.2.2.2.2.1.use q1_219 rfl) (fun _ h9 => h9) (fl_get (by decide)) dX1_skip_25 ?_
      refine lv_iload_n hx hb dX1_skip_28 rfl (lv_at hl 3 rfl) ?_
      obtain ⟨h_3, hF⟩ := grd_some hF
      refine va_iald (D := D.1) (f := gIA gP0 3) hx hb X.1 X.2.1 7 5 rfl rfl (inB_ok h_3) dX1_skip_29 ?_
      refine lv_aload_n hx hb dX1_skip_30 rfl (lv_at hl 2 rfl) ?_
      refine va_getN (D := D.1) (ci := 0) (v := .ref (aP0 2)) (C := RX0) (T := TX0) (N := 19) hx hb hts wi_X0 hown X.1 X.2.1 3 rfl rfl 2 (by decide) (X.2.2.2.2.2.1.use q1_216 rfl) (fun _ h9 => h9) (fl_get (by decide)) dX1_skip_31 ?_
      refine lv_iload_n hx hb dX1_skip_34 rfl (lv_at hl 3 rfl) ?_
      obtain ⟨h_4, hF⟩ := grd_some hF
      refine va_iald (D := D.1) (f := gIA gP0 2) hx hb X.1 X.2.1 6 4 rfl rfl (inB_ok h_4) dX1_skip_35 ?_
      obtain ⟨q_5, hc_6, hF⟩ := bnd_some hF
      refine cV_v (As := [.int ((gI gT 4) - (1 : Int32)), .int (gIA gP0 3 x1.toNatClampNeg), .int (gIA gP0 2 x1.toNatClampNeg)]) (rest := []) C X (c_X1_become l D hT aT yT gT ((gI gT 4) - (1 : Int32)) (gIA gP0 3 x1.toNatClampNeg) (gIA gP0 2 x1.toNatClampNeg) q_5 hc_6 _) (cwV 3 hts (good_V q5_50 q5_52 q0_50 q1_4 q5_53) rfl rfl rfl (by decide +kernel) ⟨Nat.le_of_ble_eq_true rfl, Nat.le_of_ble_eq_true rfl⟩) (va_recv X.1 X.2.1 (ci := 1) (q0 := 0) rfl rfl) (X.1.sub (tys' := tX1 yT) [0, 1] rfl) (X.2.1.sub (ws' := wX1 hT aT yT gT) [0, 1, 2] rfl) (X.2.2.1.sub (ws' := wX1 hT aT yT gT) [0, 1, 2] (by decide) rfl) (free_of (wC := wX1 hT aT yT gT) (isC := [0, 1, 2]) X rfl) hl.1 rfl rfl (Nat.le_of_ble_eq_true rfl) dX1_skip_36 ⟨Nat.le_of_ble_eq_true rfl, Nat.le_of_ble_eq_true rfl⟩ (fun t H1 locs1 ht hB hk hS => ?_)
      have X : Hx D (tX1 yT ++ (tX0 yP0)) A s H1 locs1 (wX1 hT aT yT q_5 ++ (wX0 hP0 aP0 yP0 gP0)) := Hx_after (isC := [0, 1, 2]) (isR := [3, 4, 5, 6, 7, 8, 9, 10, 11, 12, 13, 14, 15, 16, 17, 18]) (pm := [16, 17, 18, 0, 1, 2, 3, 4, 5, 6, 7, 8, 9, 10, 11, 12, 13, 14, 15]) (wr := wX0 hP0 aP0 yP0 gP0) X ⟨rfl, rfl, by decide, by decide, rfl, by decide⟩ ht hB hk hS
      clear hk hS ht hB
      generalize H1 = H at X ⊢
      generalize locs1 = locs at X ⊢
      refine lv_iload_n hx hb dX1_skip_39 rfl (lv_at hl 3 rfl) ?_
      refine lv_aload_n hx hb dX1_skip_40 rfl (lv_at hl 2 rfl) ?_
      refine va_getN (D := D.1) (ci := 0) (v := .ref (aP0 5)) (C := RX0) (T := TX0) (N := 19) hx hb hts wi_X0 hown X.1 X.2.1 3 rfl rfl 5 (by decide) (X.2.2.2.2.2.1.use q1_228 rfl) (fun _ h9 => h9) (fl_get (by decide)) dX1_skip_41 ?_
      refine lv_iload_n hx hb dX1_skip_44 rfl (lv_at hl 3 rfl) ?_
      obtain ⟨h_7, hF⟩ := grd_some hF
      refine va_iald (D := D.1) (f := gIA gP0 5) hx hb X.1 X.2.1 9 7 rfl rfl (inB_ok h_7) dX1_skip_45 ?_
      refine va_mmax hx hb (by rw [hml]; exact hl.1.symm) hown (hts _ q5_58) (hts _ q4_13) (hts _ q1_14) (hts _ q4_14) (Nat.le_of_ble_eq_true rfl) (Nat.le_of_ble_eq_true rfl) (Nat.le_of_ble_eq_true rfl) (Nat.le_of_ble_eq_true rfl) dX1_skip_46 ?_
      have hq := Option.some.inj hF
      subst hq
      exact rt_i C X dX1_skip_49
  · replace hF := iF c hF
    refine lv_iload_n hx hb dX1_skip_13 rfl (lv_at hl 3 rfl) ?_
    have hq := Option.some.inj hF
    subst hq
    exact rt_i C X dX1_skip_14

/-! ### X1_workOne -/
theorem dX1_workOne_0 : decode cX1_workOne 0 = .ok (.aload_n 0, 1) := by decide +kernel
theorem dX1_workOne_1 : decode cX1_workOne 1 = .ok (.getfield 19, 3) := by decide +kernel
theorem dX1_workOne_4 : decode cX1_workOne 4 = .ok (.iconst 1, 1) := by decide +kernel
theorem dX1_workOne_5 : decode cX1_workOne 5 = .ok (.isub, 1) := by decide +kernel
theorem dX1_workOne_6 : decode cX1_workOne 6 = .ok (.istore 4, 2) := by decide +kernel
theorem dX1_workOne_8 : decode cX1_workOne 8 = .ok (.iload 4, 2) := by decide +kernel
theorem dX1_workOne_10 : decode cX1_workOne 10 = .ok (.ifCond .ge 4, 3) := by decide +kernel
theorem dX1_workOne_13 : decode cX1_workOne 13 = .ok (.return_, 1) := by decide +kernel
theorem dX1_workOne_14 : decode cX1_workOne 14 = .ok (.iload_n 1, 1) := by decide +kernel
theorem dX1_workOne_15 : decode cX1_workOne 15 = .ok (.bipush 54, 2) := by decide +kernel
theorem dX1_workOne_17 : decode cX1_workOne 17 = .ok (.if_icmp .ne 20, 3) := by decide +kernel
theorem dX1_workOne_20 : decode cX1_workOne 20 = .ok (.aload_n 0, 1) := by decide +kernel
theorem dX1_workOne_21 : decode cX1_workOne 21 = .ok (.getfield 9, 3) := by decide +kernel
theorem dX1_workOne_24 : decode cX1_workOne 24 = .ok (.iload 4, 2) := by decide +kernel
theorem dX1_workOne_26 : decode cX1_workOne 26 = .ok (.lconst 1, 1) := by decide +kernel
theorem dX1_workOne_27 : decode cX1_workOne 27 = .ok (.aload_n 0, 1) := by decide +kernel
theorem dX1_workOne_28 : decode cX1_workOne 28 = .ok (.getfield 9, 3) := by decide +kernel
theorem dX1_workOne_31 : decode cX1_workOne 31 = .ok (.iload 4, 2) := by decide +kernel
theorem dX1_workOne_33 : decode cX1_workOne 33 = .ok (.laload, 1) := by decide +kernel
theorem dX1_workOne_34 : decode cX1_workOne 34 = .ok (.lsub, 1) := by decide +kernel
theorem dX1_workOne_35 : decode cX1_workOne 35 = .ok (.lastore, 1) := by decide +kernel
theorem dX1_workOne_36 : decode cX1_workOne 36 = .ok (.return_, 1) := by decide +kernel
theorem dX1_workOne_37 : decode cX1_workOne 37 = .ok (.aload_n 0, 1) := by decide +kernel
theorem dX1_workOne_38 : decode cX1_workOne 38 = .ok (.iload 4, 2) := by decide +kernel
theorem dX1_workOne_40 : decode cX1_workOne 40 = .ok (.iload_n 2, 1) := by decide +kernel
theorem dX1_workOne_41 : decode cX1_workOne 41 = .ok (.iload_n 3, 1) := by decide +kernel
theorem dX1_workOne_42 : decode cX1_workOne 42 = .ok (.invokevirtual 99, 3) := by decide +kernel
theorem dX1_workOne_45 : decode cX1_workOne 45 = .ok (.aload_n 0, 1) := by decide +kernel
theorem dX1_workOne_46 : decode cX1_workOne 46 = .ok (.getfield 15, 3) := by decide +kernel
theorem dX1_workOne_49 : decode cX1_workOne 49 = .ok (.iload 4, 2) := by decide +kernel
theorem dX1_workOne_51 : decode cX1_workOne 51 = .ok (.daload, 1) := by decide +kernel
theorem dX1_workOne_52 : decode cX1_workOne 52 = .ok (.dstore 5, 2) := by decide +kernel
theorem dX1_workOne_54 : decode cX1_workOne 54 = .ok (.iload_n 1, 1) := by decide +kernel
theorem dX1_workOne_55 : decode cX1_workOne 55 = .ok (.lookupswitch 155 #[(19, 95), (20, 110), (21, 125), (22, 140), (65, 49)], 49) := by decide +kernel
theorem dX1_workOne_104 : decode cX1_workOne 104 = .ok (.aload_n 0, 1) := by decide +kernel
theorem dX1_workOne_105 : decode cX1_workOne 105 = .ok (.getfield 15, 3) := by decide +kernel
theorem dX1_workOne_108 : decode cX1_workOne 108 = .ok (.iload 4, 2) := by decide +kernel
theorem dX1_workOne_110 : decode cX1_workOne 110 = .ok (.dload 5, 2) := by decide +kernel
theorem dX1_workOne_112 : decode cX1_workOne 112 = .ok (.dneg, 1) := by decide +kernel
theorem dX1_workOne_113 : decode cX1_workOne 113 = .ok (.dastore, 1) := by decide +kernel
theorem dX1_workOne_114 : decode cX1_workOne 114 = .ok (.aload_n 0, 1) := by decide +kernel
theorem dX1_workOne_115 : decode cX1_workOne 115 = .ok (.getfield 9, 3) := by decide +kernel
theorem dX1_workOne_118 : decode cX1_workOne 118 = .ok (.iload 4, 2) := by decide +kernel
theorem dX1_workOne_120 : decode cX1_workOne 120 = .ok (.iload_n 3, 1) := by decide +kernel
theorem dX1_workOne_121 : decode cX1_workOne 121 = .ok (.iconst 4, 1) := by decide +kernel
theorem dX1_workOne_122 : decode cX1_workOne 122 = .ok (.if_icmp .ne 16, 3) := by decide +kernel
theorem dX1_workOne_125 : decode cX1_workOne 125 = .ok (.aload_n 0, 1) := by decide +kernel
theorem dX1_workOne_126 : decode cX1_workOne 126 = .ok (.getfield 9, 3) := by decide +kernel
theorem dX1_workOne_129 : decode cX1_workOne 129 = .ok (.iload 4, 2) := by decide +kernel
theorem dX1_workOne_131 : decode cX1_workOne 131 = .ok (.laload, 1) := by decide +kernel
theorem dX1_workOne_132 : decode cX1_workOne 132 = .ok (.lneg, 1) := by decide +kernel
theorem dX1_workOne_133 : decode cX1_workOne 133 = .ok (.l2i, 1) := by decide +kernel
theorem dX1_workOne_134 : decode cX1_workOne 134 = .ok (.i2l, 1) := by decide +kernel
theorem dX1_workOne_135 : decode cX1_workOne 135 = .ok (.goto 11, 3) := by decide +kernel
theorem dX1_workOne_138 : decode cX1_workOne 138 = .ok (.aload_n 0, 1) := by decide +kernel
theorem dX1_workOne_139 : decode cX1_workOne 139 = .ok (.getfield 9, 3) := by decide +kernel
theorem dX1_workOne_142 : decode cX1_workOne 142 = .ok (.iload 4, 2) := by decide +kernel
theorem dX1_workOne_144 : decode cX1_workOne 144 = .ok (.laload, 1) := by decide +kernel
theorem dX1_workOne_145 : decode cX1_workOne 145 = .ok (.lneg, 1) := by decide +kernel
theorem dX1_workOne_146 : decode cX1_workOne 146 = .ok (.lastore, 1) := by decide +kernel
theorem dX1_workOne_147 : decode cX1_workOne 147 = .ok (.goto 63, 3) := by decide +kernel
theorem dX1_workOne_150 : decode cX1_workOne 150 = .ok (.aload_n 0, 1) := by decide +kernel
theorem dX1_workOne_151 : decode cX1_workOne 151 = .ok (.getfield 15, 3) := by decide +kernel
theorem dX1_workOne_154 : decode cX1_workOne 154 = .ok (.iload 4, 2) := by decide +kernel
theorem dX1_workOne_156 : decode cX1_workOne 156 = .ok (.dload 5, 2) := by decide +kernel
theorem dX1_workOne_158 : decode cX1_workOne 158 = .ok (.invokestatic 185, 3) := by decide +kernel
theorem dX1_workOne_161 : decode cX1_workOne 161 = .ok (.dastore, 1) := by decide +kernel
theorem dX1_workOne_162 : decode cX1_workOne 162 = .ok (.goto 48, 3) := by decide +kernel
theorem dX1_workOne_165 : decode cX1_workOne 165 = .ok (.aload_n 0, 1) := by decide +kernel
theorem dX1_workOne_166 : decode cX1_workOne 166 = .ok (.getfield 15, 3) := by decide +kernel
theorem dX1_workOne_169 : decode cX1_workOne 169 = .ok (.iload 4, 2) := by decide +kernel
theorem dX1_workOne_171 : decode cX1_workOne 171 = .ok (.dload 5, 2) := by decide +kernel
theorem dX1_workOne_173 : decode cX1_workOne 173 = .ok (.invokestatic 189, 3) := by decide +kernel
theorem dX1_workOne_176 : decode cX1_workOne 176 = .ok (.dastore, 1) := by decide +kernel
theorem dX1_workOne_177 : decode cX1_workOne 177 = .ok (.goto 33, 3) := by decide +kernel
theorem dX1_workOne_180 : decode cX1_workOne 180 = .ok (.aload_n 0, 1) := by decide +kernel
theorem dX1_workOne_181 : decode cX1_workOne 181 = .ok (.getfield 15, 3) := by decide +kernel
theorem dX1_workOne_184 : decode cX1_workOne 184 = .ok (.iload 4, 2) := by decide +kernel
theorem dX1_workOne_186 : decode cX1_workOne 186 = .ok (.dload 5, 2) := by decide +kernel
theorem dX1_workOne_188 : decode cX1_workOne 188 = .ok (.invokestatic 192, 3) := by decide +kernel
theorem dX1_workOne_191 : decode cX1_workOne 191 = .ok (.dastore, 1) := by decide +kernel
theorem dX1_workOne_192 : decode cX1_workOne 192 = .ok (.goto 18, 3) := by decide +kernel
theorem dX1_workOne_195 : decode cX1_workOne 195 = .ok (.aload_n 0, 1) := by decide +kernel
theorem dX1_workOne_196 : decode cX1_workOne 196 = .ok (.getfield 15, 3) := by decide +kernel
theorem dX1_workOne_199 : decode cX1_workOne 199 = .ok (.iload 4, 2) := by decide +kernel
theorem dX1_workOne_201 : decode cX1_workOne 201 = .ok (.dload 5, 2) := by decide +kernel
theorem dX1_workOne_203 : decode cX1_workOne 203 = .ok (.invokestatic 195, 3) := by decide +kernel
theorem dX1_workOne_206 : decode cX1_workOne 206 = .ok (.dastore, 1) := by decide +kernel
theorem dX1_workOne_207 : decode cX1_workOne 207 = .ok (.goto 3, 3) := by decide +kernel
theorem dX1_workOne_210 : decode cX1_workOne 210 = .ok (.return_, 1) := by decide +kernel
abbrev R_X1_workOne : Room := ({ frames := 3, cells := 0, slots := 0, locals := 65 } : Room)
def b_X1_workOne_146 (gT : Gs) (s0 : Int64) (s1 : Int32) : Option (Gs) :=
  grd (inB s1 512) (some (sLA gT 2 (vp_updL (gLA gT 2) s1.toNatClampNeg s0)))
def f_X1_workOne (gT : Gs) (x0 : Int32) (x1 : Int32) (x2 : Int32) : Option (Gs) :=
  if 0 ≤ ((gI gT 4) - (1 : Int32)) then (if x0 = (54 : Int32) then (grd (inB ((gI gT 4) - (1 : Int32)) 512) (grd (inB ((gI gT 4) - (1 : Int32)) 512) (some (sLA gT 2 (vp_updL (gLA gT 2) ((gI gT 4) - (1 : Int32)).toNatClampNeg ((1 : Int64) - (gLA gT 2 ((gI gT 4) - (1 : Int32)).toNatClampNeg))))))) else (bnd (f_X1_become gT ((gI gT 4) - (1 : Int32)) x1 x2) (fun q_1 => grd (inB ((gI gT 4) - (1 : Int32)) 512) (if x0 = (19 : Int32) then (bnd (f_X6_floorOf (gDA q_1 3 ((gI gT 4) - (1 : Int32)).toNatClampNeg)) (fun q_4 => grd (inB ((gI gT 4) - (1 : Int32)) 512) (some (sDA q_1 3 (vf_upd (gDA q_1 3) ((gI gT 4) - (1 : Int32)).toNatClampNeg q_4))))) else (if x0 = (20 : Int32) then (bnd (f_X6_ceilOf (gDA q_1 3 ((gI gT 4) - (1 : Int32)).toNatClampNeg)) (fun q_7 => grd (inB ((gI gT 4) - (1 : Int32)) 512) (some (sDA q_1 3 (vf_upd (gDA q_1 3) ((gI gT 4) - (1 : Int32)).toNatClampNeg q_7))))) else (if x0 = (21 : Int32) then (bnd (f_X6_rintOf (gDA q_1 3 ((gI gT 4) - (1 : Int32)).toNatClampNeg)) (fun q_10 => grd (inB ((gI gT 4) - (1 : Int32)) 512) (some (sDA q_1 3 (vf_upd (gDA q_1 3) ((gI gT 4) - (1 : Int32)).toNatClampNeg q_10))))) else (if x0 = (22 : Int32) then (bnd (f_X6_sizeOf (gDA q_1 3 ((gI gT 4) - (1 : Int32)).toNatClampNeg)) (fun q_13 => grd (inB ((gI gT 4) - (1 : Int32)) 512) (some (sDA q_1 3 (vf_upd (gDA q_1 3) ((gI gT 4) - (1 : Int32)).toNatClampNeg q_13))))) else (if x0 = (65 : Int32) then (grd (inB ((gI gT 4) - (1 : Int32)) 512) (if x2 = (4 : Int32) then (grd (inB ((gI gT 4) - (1 : Int32)) 512) (b_X1_workOne_146 (sDA q_1 3 (vf_upd (gDA q_1 3) ((gI gT 4) - (1 : Int32)).toNatClampNeg (FP.dneg (gDA q_1 3 ((gI gT 4) - (1 : Int32)).toNatClampNeg)))) (((-(gLA q_1 2 ((gI gT 4) - (1 : Int32)).toNatClampNeg)).toInt32).toInt64) ((gI gT 4) - (1 : Int32)))) else (grd (inB ((gI gT 4) - (1 : Int32)) 512) (b_X1_workOne_146 (sDA q_1 3 (vf_upd (gDA q_1 3) ((gI gT 4) - (1 : Int32)).toNatClampNeg (FP.dneg (gDA q_1 3 ((gI gT 4) - (1 : Int32)).toNatClampNeg)))) (-(gLA q_1 2 ((gI gT 4) - (1 : Int32)).toNatClampNeg)) ((gI gT 4) - (1 : Int32)))))) else (some q_1))))))))) else (some gT)
def S_X1_workOne_146 (l : Launch) (D : Dx) (hT : Nat) (aT : Nat → Nat) (yT : Nat → ClassId) (fn : Gs → Int64 → Int32 → Option (Gs)) : Prop :=
  ∀ {p : Program} {e : Env} {s : State} {m : MethodId} {args : Array Value} {below : List Frame} {meth : Method} {c : Code} {H : Heap} {locs : List Loc} {A : Nat → Prop} {ls : Array Slot} {gT : Gs} {s0 : Int64} {s1 : Int32} {q : Gs}, Cx p s m args meth c cX1_workOne none 7 RX1 lw_all → Hx D (tX1 yT) A s H locs (wX1 hT aT yT gT) → lv_has ls 7 [] → fn gT s0 s1 = some q → W p l e R_X1_workOne s m args below meth c H locs 0 0 (MQ below (QV D A (wX1 hT aT yT q)) args s 0 0 A) (F0 m 146 ls [.long s0, .int s1, .ref (aT 2)])
set_option maxHeartbeats 4000000 in
set_option maxRecDepth 100000 in
theorem k_X1_workOne_146 (l : Launch) (D : Dx) (hT : Nat) (aT : Nat → Nat) (yT : Nat → ClassId) : S_X1_workOne_146 l D hT aT yT (b_X1_workOne_146) := by
  intro p e s m args below meth c H locs A ls gT s0 s1 q C X hl hF
  obtain ⟨hx, hb, hr, hml, hown, hts, hlk⟩ := id C
  unfold b_X1_workOne_146 at hF
  obtain ⟨h_18, hF⟩ := grd_some hF
  refine va_last (D := D.1) (f := gLA gT 2) hx hb X.1 X.2.1 X.2.2.1 X.2.2.2.1 1 0 rfl rfl (inB_ok h_18) dX1_workOne_146 (fun H locs hP hD hS => ?_)
  have X : Hx D (tX1 yT) A s H locs (wX1 hT aT yT (sLA gT 2 (vp_updL (gLA gT 2) s1.toNatClampNeg s0))) := Hx_set X (wG_sLA (i := 0) (k := 2) ndX1 rfl rfl) hP hD hS
  refine lv_goto (tgt := 210) hx hb dX1_workOne_147 (by decide) ?_
  have hq := Option.some.inj hF
  subst hq
  exact rt_v C X dX1_workOne_210
set_option maxHeartbeats 4000000 in
set_option maxRecDepth 100000 in
theorem c_X1_workOne (l : Launch) (D : Dx) (hT : Nat) (aT : Nat → Nat) (yT : Nat → ClassId) (gT : Gs) (x0 : Int32) (x1 : Int32) (x2 : Int32) (q : Gs) (hF : f_X1_workOne gT x0 x1 x2 = some q) (sz : Nat) : Met l yX1_workOne (ws_ yX1_workOne cX1_workOne 7 none) R_X1_workOne (PC D (tX1 yT) [.ref hT, .int x0, .int x1, .int x2] (wX1 hT aT yT gT) sz) (QV D (va_A (wX1 hT aT yT gT) sz) (wX1 hT aT yT q)) 0 0 (va_A (wX1 hT aT yT gT) sz) := by
  refine Met.ofW (cc := cX1_workOne) (maxL := 7) (ret := none) (by decide) rfl ?_
  intro p e s m args below meth c s₁ B hml hv
  obtain ⟨rfl, hsz, hP, hK, hD, hN⟩ := hv
  subst hsz
  have C : Cx p s m _ meth c cX1_workOne none 7 RX1 lw_all := Cx_of B hml
  have X := Hx_start hP hK hD hN
  obtain ⟨hx, hb, hr, -, hown, hts, hlk⟩ := id C
  generalize va_A (wX1 hT aT yT gT) s.heap.size = A at X ⊢
  have hl := lv_entry ([.ref hT, .int x0, .int x1, .int x2]) (n := 7) (Nat.le_of_ble_eq_true rfl)
  rw [lg_entry_eq]
  generalize (lg_sl ([.ref hT, .int x0, .int x1, .int x2]) ++ List.replicate (7 - (lg_sl ([.ref hT, .int x0, .int x1, .int x2])).length) Slot.unset).toArray = ls at hl ⊢
  have hl : lv_has ls 7 [(0, .ref hT), (1, .int x0), (2, .int x1), (3, .int x2)] := hl
  unfold f_X1_workOne at hF
  refine lv_aload_n hx hb dX1_workOne_0 rfl (lv_at hl 0 rfl) ?_
  refine va_get (D := D.1) (ci := 1) (v := .int (gI gT 4)) (C := RX1) (T := TX1) (N := 7) hx hb hts wi_X1 hown X.1 X.2.1 0 rfl rfl 4 (by decide) (hts _ q1_143) (fun _ h9 => h9) (fl_get (by decide)) dX1_workOne_1 ?_
  refine lv_iconst (v := (1 : Int32)) hx hb dX1_workOne_4 (by decide) ?_
  refine lv_isub hx hb dX1_workOne_5 ?_
  refine lv_istore (lv' := [(4, .int ((gI gT 4) - (1 : Int32))), (0, .ref hT), (1, .int x0), (2, .int x1), (3, .int x2)]) hx hb dX1_workOne_6 hl (by decide) rfl (fun ls hl => ?_)
  refine lv_iload hx hb dX1_workOne_8 (lv_at hl 0 rfl) ?_
  refine lv_if_ge (tgt := 14) hx hb dX1_workOne_10 (by decide) (fun c => ?_) (fun c => ?_)
  · replace hF := iT c hF
    refine lv_iload_n hx hb dX1_workOne_14 rfl (lv_at hl 2 rfl) ?_
    refine lv_bipush (v := (54 : Int32)) hx hb dX1_workOne_15 (by decide) ?_
    refine lv_icmp_ne (tgt := 37) hx hb dX1_workOne_17 (by decide) (fun c => ?_) (fun c => ?_)
    · replace hF := iF c hF
      refine lv_aload_n hx hb dX1_workOne_37 rfl (lv_at hl 1 rfl) ?_
      refine lv_iload hx hb dX1_workOne_38 (lv_at hl 0 rfl) ?_
      refine lv_iload_n hx hb dX1_workOne_40 rfl (lv_at hl 3 rfl) ?_
      refine lv_iload_n hx hb dX1_workOne_41 rfl (lv_at hl 4 rfl) ?_
      obtain ⟨q_1, hc_2, hF⟩ := bnd_some hF
      refine cV_v (As := [.int ((gI gT 4) - (1 : Int32)), .int x1, .int x2]) (rest := []) C X (c_X1_become l D hT aT yT gT ((gI gT 4) - (1 : Int32)) x1 x2 q_1 hc_2 _) (cwV 3 hts (good_V q5_50 q5_52 q0_50 q1_4 q5_53) rfl rfl rfl (by decide +kernel) ⟨Nat.le_of_ble_eq_true rfl, Nat.le_of_ble_eq_true rfl⟩) (va_recv X.1 X.2.1 (ci := 1) (q0 := 0) rfl rfl) X.1 X.2.1 X.2.2.1 (free_all X) hl.1 rfl rfl (Nat.le_of_ble_eq_true rfl) dX1_workOne_42 ⟨Nat.le_of_ble_eq_true rfl, Nat.le_of_ble_eq_true rfl⟩ (fun t H1 locs1 ht hB hk hS => ?_)
      have X : Hx D (tX1 yT) A s H1 locs1 (wX1 hT aT yT q_1) := Hx_after_all X ht hB hS
      clear hk hS ht hB
      generalize H1 = H at X ⊢
      generalize locs1 = locs at X ⊢
      refine lv_aload_n hx hb dX1_workOne_45 rfl (lv_at hl 1 rfl) ?_
      refine va_get (D := D.1) (ci := 1) (v := .ref (aT 3)) (C := RX1) (T := TX1) (N := 7) hx hb hts wi_X1 hown X.1 X.2.1 0 rfl rfl 3 (by decide) (hts _ q1_141) (fun _ h9 => h9) (fl_get (by decide)) dX1_workOne_46 ?_
      refine lv_iload hx hb dX1_workOne_49 (lv_at hl 0 rfl) ?_
      obtain ⟨h_3, hF⟩ := grd_some hF
      refine va_dald (D := D.1) (f := gDA q_1 3) hx hb X.1 X.2.1 2 1 rfl rfl (inB_ok h_3) dX1_workOne_51 ?_
      refine lv_dstore (lv' := [(5, .double (gDA q_1 3 ((gI gT 4) - (1 : Int32)).toNatClampNeg)), (4, .int ((gI gT 4) - (1 : Int32))), (0, .ref hT), (1, .int x0), (2, .int x1), (3, .int x2)]) hx hb dX1_workOne_52 hl (by decide) rfl (fun ls hl => ?_)
      refine lv_iload_n hx hb dX1_workOne_54 rfl (lv_at hl 3 rfl) ?_
      by_cases c19 : x0 = (19 : Int32)
      · replace hF := iT c19 hF
        refine lv_lookup (tgt := 150) (off := 95) hx hb dX1_workOne_55 (by decide) (by rw [c19]; rfl) (by decide) ?_
        refine lv_aload_n hx hb dX1_workOne_150 rfl (lv_at hl 2 rfl) ?_
        refine va_get (D := D.1) (ci := 1) (v := .ref (aT 3)) (C := RX1) (T := TX1) (N := 7) hx hb hts wi_X1 hown X.1 X.2.1 0 rfl rfl 3 (by decide) (hts _ q1_141) (fun _ h9 => h9) (fl_get (by decide)) dX1_workOne_151 ?_
        refine lv_iload hx hb dX1_workOne_154 (lv_at hl 1 rfl) ?_
        refine lv_dload hx hb dX1_workOne_156 (lv_at hl 0 rfl) ?_
        obtain ⟨q_4, hc_5, hF⟩ := bnd_some hF
        refine cS_d (As := [.double (gDA q_1 3 ((gI gT 4) - (1 : Int32)).toNatClampNeg)]) (rest := [.int ((gI gT 4) - (1 : Int32)), .ref (aT 3)]) C X (c_X6_floorOf l D  (gDA q_1 3 ((gI gT 4) - (1 : Int32)).toNatClampNeg) q_4 hc_5 _) (va_cwS 1 hts (good_S q5_67 q5_68 q1_2 q5_69) rfl rfl rfl (by decide +kernel) ⟨Nat.le_of_ble_eq_true rfl, Nat.le_of_ble_eq_true rfl⟩) (eK X) eP (eD (A := A)) (eF X) hl.1 rfl rfl (Nat.le_of_ble_eq_true rfl) dX1_workOne_158 ⟨Nat.le_of_ble_eq_true rfl, Nat.le_of_ble_eq_true rfl⟩ (fun t H1 locs1 ht hB hk hS => ?_)
        have X := Hx_after_none X hk hS
        clear hk hS ht hB
        generalize H1 = H at X ⊢
        generalize locs1 = locs at X ⊢
        obtain ⟨h_6, hF⟩ := grd_some hF
        refine va_dast (D := D.1) (f := gDA q_1 3) hx hb X.1 X.2.1 X.2.2.1 X.2.2.2.1 2 1 rfl rfl (inB_ok h_6) dX1_workOne_161 (fun H locs hP hD hS => ?_)
        have X : Hx D (tX1 yT) A s H locs (wX1 hT aT yT (sDA q_1 3 (vf_upd (gDA q_1 3) ((gI gT 4) - (1 : Int32)).toNatClampNeg q_4))) := Hx_set X (wG_sDA (i := 1) (k := 3) ndX1 rfl rfl) hP hD hS
        refine lv_goto (tgt := 210) hx hb dX1_workOne_162 (by decide) ?_
        have hq := Option.some.inj hF
        subst hq
        exact rt_v C X dX1_workOne_210
      · replace hF := iF c19 hF
        by_cases c20 : x0 = (20 : Int32)
        · replace hF := iT c20 hF
          refine lv_lookup (tgt := 165) (off := 110) hx hb dX1_workOne_55 (by decide) (by rw [c20]; rfl) (by decide) ?_
          refine lv_aload_n hx hb dX1_workOne_165 rfl (lv_at hl 2 rfl) ?_
          refine va_get (D := D.1) (ci := 1) (v := .ref (aT 3)) (C := RX1) (T := TX1) (N := 7) hx hb hts wi_X1 hown X.1 X.2.1 0 rfl rfl 3 (by decide) (hts _ q1_141) (fun _ h9 => h9) (fl_get (by decide)) dX1_workOne_166 ?_
          refine lv_iload hx hb dX1_workOne_169 (lv_at hl 1 rfl) ?_
          refine lv_dload hx hb dX1_workOne_171 (lv_at hl 0 rfl) ?_
          obtain ⟨q_7, hc_8, hF⟩ := bnd_some hF
          refine cS_d (As := [.double (gDA q_1 3 ((gI gT 4) - (1 : Int32)).toNatClampNeg)]) (rest := [.int ((gI gT 4) - (1 : Int32)), .ref (aT 3)]) C X (c_X6_ceilOf l D  (gDA q_1 3 ((gI gT 4) - (1 : Int32)).toNatClampNeg) q_7 hc_8 _) (va_cwS 1 hts (good_S q5_74 q5_75 q1_2 q5_76) rfl rfl rfl (by decide +kernel) ⟨Nat.le_of_ble_eq_true rfl, Nat.le_of_ble_eq_true rfl⟩) (eK X) eP (eD (A := A)) (eF X) hl.1 rfl rfl (Nat.le_of_ble_eq_true rfl) dX1_workOne_173 ⟨Nat.le_of_ble_eq_true rfl, Nat.le_of_ble_eq_true rfl⟩ (fun t H1 locs1 ht hB hk hS => ?_)
          have X := Hx_after_none X hk hS
          clear hk hS ht hB
          generalize H1 = H at X ⊢
          generalize locs1 = locs at X ⊢
          obtain ⟨h_9, hF⟩ := grd_some hF
          refine va_dast (D := D.1) (f := gDA q_1 3) hx hb X.1 X.2.1 X.2.2.1 X.2.2.2.1 2 1 rfl rfl (inB_ok h_9) dX1_workOne_176 (fun H locs hP hD hS => ?_)
          have X : Hx D (tX1 yT) A s H locs (wX1 hT aT yT (sDA q_1 3 (vf_upd (gDA q_1 3) ((gI gT 4) - (1 : Int32)).toNatClampNeg q_7))) := Hx_set X (wG_sDA (i := 1) (k := 3) ndX1 rfl rfl) hP hD hS
          refine lv_goto (tgt := 210) hx hb dX1_workOne_177 (by decide) ?_
          have hq := Option.some.inj hF
          subst hq
          exact rt_v C X dX1_workOne_210
        · replace hF := iF c20 hF
          by_cases c21 : x0 = (21 : Int32)
          · replace hF := iT c21 hF
            refine lv_lookup (tgt := 180) (off := 125) hx hb dX1_workOne_55 (by decide) (by rw [c21]; rfl) (by decide) ?_
            refine lv_aload_n hx hb dX1_workOne_180 rfl (lv_at hl 2 rfl) ?_
            refine va_get (D := D.1) (ci := 1) (v := .ref (aT 3)) (C := RX1) (T := TX1) (N := 7) hx hb hts wi_X1 hown X.1 X.2.1 0 rfl rfl 3 (by decide) (hts _ q1_141) (fun _ h9 => h9) (fl_get (by decide)) dX1_workOne_181 ?_
            refine lv_iload hx hb dX1_workOne_184 (lv_at hl 1 rfl) ?_
            refine lv_dload hx hb dX1_workOne_186 (lv_at hl 0 rfl) ?_
            obtain ⟨q_10, hc_11, hF⟩ := bnd_some hF
            refine cS_d (As := [.double (gDA q_1 3 ((gI gT 4) - (1 : Int32)).toNatClampNeg)]) (rest := [.int ((gI gT 4) - (1 : Int32)), .ref (aT 3)]) C X (c_X6_rintOf l D  (gDA q_1 3 ((gI gT 4) - (1 : Int32)).toNatClampNeg) q_10 hc_11 _) (va_cwS 1 hts (good_S q5_78 q5_79 q1_2 q5_80) rfl rfl rfl (by decide +kernel) ⟨Nat.le_of_ble_eq_true rfl, Nat.le_of_ble_eq_true rfl⟩) (eK X) eP (eD (A := A)) (eF X) hl.1 rfl rfl (Nat.le_of_ble_eq_true rfl) dX1_workOne_188 ⟨Nat.le_of_ble_eq_true rfl, Nat.le_of_ble_eq_true rfl⟩ (fun t H1 locs1 ht hB hk hS => ?_)
            have X := Hx_after_none X hk hS
            clear hk hS ht hB
            generalize H1 = H at X ⊢
            generalize locs1 = locs at X ⊢
            obtain ⟨h_12, hF⟩ := grd_some hF
            refine va_dast (D := D.1) (f := gDA q_1 3) hx hb X.1 X.2.1 X.2.2.1 X.2.2.2.1 2 1 rfl rfl (inB_ok h_12) dX1_workOne_191 (fun H locs hP hD hS => ?_)
            have X : Hx D (tX1 yT) A s H locs (wX1 hT aT yT (sDA q_1 3 (vf_upd (gDA q_1 3) ((gI gT 4) - (1 : Int32)).toNatClampNeg q_10))) := Hx_set X (wG_sDA (i := 1) (k := 3) ndX1 rfl rfl) hP hD hS
            refine lv_goto (tgt := 210) hx hb dX1_workOne_192 (by decide) ?_
            have hq := Option.some.inj hF
            subst hq
            exact rt_v C X dX1_workOne_210
          · replace hF := iF c21 hF
            by_cases c22 : x0 = (22 : Int32)
            · replace hF := iT c22 hF
              refine lv_lookup (tgt := 195) (off := 140) hx hb dX1_workOne_55 (by decide) (by rw [c22]; rfl) (by decide) ?_
              refine lv_aload_n hx hb dX1_workOne_195 rfl (lv_at hl 2 rfl) ?_
              refine va_get (D := D.1) (ci := 1) (v := .ref (aT 3)) (C := RX1) (T := TX1) (N := 7) hx hb hts wi_X1 hown X.1 X.2.1 0 rfl rfl 3 (by decide) (hts _ q1_141) (fun _ h9 => h9) (fl_get (by decide)) dX1_workOne_196 ?_
              refine lv_iload hx hb dX1_workOne_199 (lv_at hl 1 rfl) ?_
              refine lv_dload hx hb dX1_workOne_201 (lv_at hl 0 rfl) ?_
              obtain ⟨q_13, hc_14, hF⟩ := bnd_some hF
              refine cS_d (As := [.double (gDA q_1 3 ((gI gT 4) - (1 : Int32)).toNatClampNeg)]) (rest := [.int ((gI gT 4) - (1 : Int32)), .ref (aT 3)]) C X (c_X6_sizeOf l D  (gDA q_1 3 ((gI gT 4) - (1 : Int32)).toNatClampNeg) q_13 hc_14 _) (va_cwS 1 hts (good_S q5_84 q5_71 q1_2 q5_72) rfl rfl rfl (by decide +kernel) ⟨Nat.le_of_ble_eq_true rfl, Nat.le_of_ble_eq_true rfl⟩) (eK X) eP (eD (A := A)) (eF X) hl.1 rfl rfl (Nat.le_of_ble_eq_true rfl) dX1_workOne_203 ⟨Nat.le_of_ble_eq_true rfl, Nat.le_of_ble_eq_true rfl⟩ (fun t H1 locs1 ht hB hk hS => ?_)
              have X := Hx_after_none X hk hS
              clear hk hS ht hB
              generalize H1 = H at X ⊢
              generalize locs1 = locs at X ⊢
              obtain ⟨h_15, hF⟩ := grd_some hF
              refine va_dast (D := D.1) (f := gDA q_1 3) hx hb X.1 X.2.1 X.2.2.1 X.2.2.2.1 2 1 rfl rfl (inB_ok h_15) dX1_workOne_206 (fun H locs hP hD hS => ?_)
              have X : Hx D (tX1 yT) A s H locs (wX1 hT aT yT (sDA q_1 3 (vf_upd (gDA q_1 3) ((gI gT 4) - (1 : Int32)).toNatClampNeg q_13))) := Hx_set X (wG_sDA (i := 1) (k := 3) ndX1 rfl rfl) hP hD hS
              refine lv_goto (tgt := 210) hx hb dX1_workOne_207 (by decide) ?_
              have hq := Option.some.inj hF
              subst hq
              exact rt_v C X dX1_workOne_210
            · replace hF := iF c22 hF
              by_cases c65 : x0 = (65 : Int32)
              · replace hF := iT c65 hF
                refine lv_lookup (tgt := 104) (off := 49) hx hb dX1_workOne_55 (by decide) (by rw [c65]; rfl) (by decide) ?_
                refine lv_aload_n hx hb dX1_workOne_104 rfl (lv_at hl 2 rfl) ?_
                refine va_get (D := D.1) (ci := 1) (v := .ref (aT 3)) (C := RX1) (T := TX1) (N := 7) hx hb hts wi_X1 hown X.1 X.2.1 0 rfl rfl 3 (by decide) (hts _ q1_141) (fun _ h9 => h9) (fl_get (by decide)) dX1_workOne_105 ?_
                refine lv_iload hx hb dX1_workOne_108 (lv_at hl 1 rfl) ?_
                refine lv_dload hx hb dX1_workOne_110 (lv_at hl 0 rfl) ?_
                refine lv_dneg hx hb dX1_workOne_112 ?_
                obtain ⟨h_16, hF⟩ := grd_some hF
                refine va_dast (D := D.1) (f := gDA q_1 3) hx hb X.1 X.2.1 X.2.2.1 X.2.2.2.1 2 1 rfl rfl (inB_ok h_16) dX1_workOne_113 (fun H locs hP hD hS => ?_)
                have X : Hx D (tX1 yT) A s H locs (wX1 hT aT yT (sDA q_1 3 (vf_upd (gDA q_1 3) ((gI gT 4) - (1 : Int32)).toNatClampNeg (FP.dneg (gDA q_1 3 ((gI gT 4) - (1 : Int32)).toNatClampNeg))))) := Hx_set X (wG_sDA (i := 1) (k := 3) ndX1 rfl rfl) hP hD hS
                refine lv_aload_n hx hb dX1_workOne_114 rfl (lv_at hl 2 rfl) ?_
                refine va_get (D := D.1) (ci := 1) (v := .ref (aT 2)) (C := RX1) (T := TX1) (N := 7) hx hb hts wi_X1 hown X.1 X.2.1 0 rfl rfl 2 (by decide) (hts _ q1_139) (fun _ h9 => h9) (fl_get (by decide)) dX1_workOne_115 ?_
                refine lv_iload hx hb dX1_workOne_118 (lv_at hl 1 rfl) ?_
                refine lv_iload_n hx hb dX1_workOne_120 rfl (lv_at hl 5 rfl) ?_
                refine lv_iconst (v := (4 : Int32)) hx hb dX1_workOne_121 (by decide) ?_
                refine lv_icmp_ne (tgt := 138) hx hb dX1_workOne_122 (by decide) (fun c => ?_) (fun c => ?_)
                · replace hF := iF c hF
                  refine lv_aload_n hx hb dX1_workOne_138 rfl (lv_at hl 2 rfl) ?_
                  refine va_get (D := D.1) (ci := 1) (v := .ref (aT 2)) (C := RX1) (T := TX1) (N := 7) hx hb hts wi_X1 hown X.1 X.2.1 0 rfl rfl 2 (by decide) (hts _ q1_139) (fun _ h9 => h9) (fl_get (by decide)) dX1_workOne_139 ?_
                  refine lv_iload hx hb dX1_workOne_142 (lv_at hl 1 rfl) ?_
                  obtain ⟨h_17, hF⟩ := grd_some hF
                  refine va_lald (D := D.1) (f := gLA q_1 2) hx hb X.1 X.2.1 1 0 rfl rfl (inB_ok h_17) dX1_workOne_144 ?_
                  refine lv_lneg hx hb dX1_workOne_145 ?_
                  exact (k_X1_workOne_146 l D hT aT yT) C X (lv_sub hl [] rfl) hF
                · replace hF := iT c hF
                  refine lv_aload_n hx hb dX1_workOne_125 rfl (lv_at hl 2 rfl) ?_
                  refine va_get (D := D.1) (ci := 1) (v := .ref (aT 2)) (C := RX1) (T := TX1) (N := 7) hx hb hts wi_X1 hown X.1 X.2.1 0 rfl rfl 2 (by decide) (hts _ q1_139) (fun _ h9 => h9) (fl_get (by decide)) dX1_workOne_126 ?_
                  refine lv_iload hx hb dX1_workOne_129 (lv_at hl 1 rfl) ?_
                  obtain ⟨h_19, hF⟩ := grd_some hF
                  refine va_lald (D := D.1) (f := gLA q_1 2) hx hb X.1 X.2.1 1 0 rfl rfl (inB_ok h_19) dX1_workOne_131 ?_
                  refine lv_lneg hx hb dX1_workOne_132 ?_
                  refine lv_l2i hx hb dX1_workOne_133 rfl ?_
                  refine lv_i2l hx hb dX1_workOne_134 rfl ?_
                  refine lv_goto (tgt := 146) hx hb dX1_workOne_135 (by decide) ?_
                  exact (k_X1_workOne_146 l D hT aT yT) C X (lv_sub hl [] rfl) hF
              · replace hF := iF c65 hF
                refine lv_lookup (tgt := 210) (off := 155) hx hb dX1_workOne_55 (by decide) (lkc (tneS c19 (by decide)) (lkc (tneS c20 (by decide)) (lkc (tneS c21 (by decide)) (lkc (tneS c22 (by decide)) (lkc (tneS c65 (by decide)) lkn))))) (by decide) ?_
                have hq := Option.some.inj hF
                subst hq
                exact rt_v C X dX1_workOne_210
    · replace hF := iT c hF
      refine lv_aload_n hx hb dX1_workOne_20 rfl (lv_at hl 1 rfl) ?_
      refine va_get (D := D.1) (ci := 1) (v := .ref (aT 2)) (C := RX1) (T := TX1) (N := 7) hx hb hts wi_X1 hown X.1 X.2.1 0 rfl rfl 2 (by decide) (hts _ q1_139) (fun _ h9 => h9) (fl_get (by decide)) dX1_workOne_21 ?_
      refine lv_iload hx hb dX1_workOne_24 (lv_at hl 0 rfl) ?_
      refine lv_lconst (v := (1 : Int64)) hx hb dX1_workOne_26 (by decide) ?_
      refine lv_aload_n hx hb dX1_workOne_27 rfl (lv_at hl 1 rfl) ?_
      refine va_get (D := D.1) (ci := 1) (v := .ref (aT 2)) (C := RX1) (T := TX1) (N := 7) hx hb hts wi_X1 hown X.1 X.2.1 0 rfl rfl 2 (by decide) (hts _ q1_139) (fun _ h9 => h9) (fl_get (by decide)) dX1_workOne_28 ?_
      refine lv_iload hx hb dX1_workOne_31 (lv_at hl 0 rfl) ?_
      obtain ⟨h_20, hF⟩ := grd_some hF
      refine va_lald (D := D.1) (f := gLA gT 2) hx hb X.1 X.2.1 1 0 rfl rfl (inB_ok h_20) dX1_workOne_33 ?_
      refine lv_lsub hx hb dX1_workOne_34 ?_
      obtain ⟨h_21, hF⟩ := grd_some hF
      refine va_last (D := D.1) (f := gLA gT 2) hx hb X.1 X.2.1 X.2.2.1 X.2.2.2.1 1 0 rfl rfl (inB_ok h_21) dX1_workOne_35 (fun H locs hP hD hS => ?_)
      have X : Hx D (tX1 yT) A s H locs (wX1 hT aT yT (sLA gT 2 (vp_updL (gLA gT 2) ((gI gT 4) - (1 : Int32)).toNatClampNeg ((1 : Int64) - (gLA gT 2 ((gI gT 4) - (1 : Int32)).toNatClampNeg))))) := Hx_set X (wG_sLA (i := 0) (k := 2) ndX1 rfl rfl) hP hD hS
      have hq := Option.some.inj hF
      subst hq
      exact rt_v C X dX1_workOne_36
  · replace hF := iF c hF
    have hq := Option.some.inj hF
    subst hq
    exact rt_v C X dX1_workOne_13

/-! ### X1_orderOf -/
theorem dX1_orderOf_0 : decode cX1_orderOf 0 = .ok (.dload_n 0, 1) := by decide +kernel
theorem dX1_orderOf_1 : decode cX1_orderOf 1 = .ok (.dload_n 2, 1) := by decide +kernel
theorem dX1_orderOf_2 : decode cX1_orderOf 2 = .ok (.dcmp .g, 1) := by decide +kernel
theorem dX1_orderOf_3 : decode cX1_orderOf 3 = .ok (.ifCond .ge 7, 3) := by decide +kernel
theorem dX1_orderOf_6 : decode cX1_orderOf 6 = .ok (.iconst (-1), 1) := by decide +kernel
theorem dX1_orderOf_7 : decode cX1_orderOf 7 = .ok (.goto 14, 3) := by decide +kernel
theorem dX1_orderOf_10 : decode cX1_orderOf 10 = .ok (.dload_n 0, 1) := by decide +kernel
theorem dX1_orderOf_11 : decode cX1_orderOf 11 = .ok (.dload_n 2, 1) := by decide +kernel
theorem dX1_orderOf_12 : decode cX1_orderOf 12 = .ok (.dcmp .l, 1) := by decide +kernel
theorem dX1_orderOf_13 : decode cX1_orderOf 13 = .ok (.ifCond .le 7, 3) := by decide +kernel
theorem dX1_orderOf_16 : decode cX1_orderOf 16 = .ok (.iconst 1, 1) := by decide +kernel
theorem dX1_orderOf_17 : decode cX1_orderOf 17 = .ok (.goto 4, 3) := by decide +kernel
theorem dX1_orderOf_20 : decode cX1_orderOf 20 = .ok (.iconst 0, 1) := by decide +kernel
theorem dX1_orderOf_21 : decode cX1_orderOf 21 = .ok (.ireturn, 1) := by decide +kernel
abbrev R_X1_orderOf : Room := ({ frames := 0, cells := 0, slots := 0, locals := 0 } : Room)
def f_X1_orderOf (x0 : UInt64) (x1 : UInt64) : Option (Int32) :=
  if 0 ≤ (Op.cmpValue (FP.dcmp x0 x1) .g) then (if (Op.cmpValue (FP.dcmp x0 x1) .l) ≤ 0 then (some (0 : Int32)) else (some (1 : Int32))) else (some (-1 : Int32))
set_option maxHeartbeats 4000000 in
set_option maxRecDepth 100000 in
theorem c_X1_orderOf (l : Launch) (D : Dx) (x0 : UInt64) (x1 : UInt64) (q : Int32) (hF : f_X1_orderOf x0 x1 = some q) (sz : Nat) : Met l yX1_orderOf (ws_ yX1_orderOf cX1_orderOf 4 (some .int)) R_X1_orderOf (PC D ([]) [.double x0, .double x1] ([]) sz) (QI D (va_A ([]) sz) ([]) q) 0 0 (va_A ([]) sz) := by
  refine Met.ofW (cc := cX1_orderOf) (maxL := 4) (ret := (some .int)) (by decide) rfl ?_
  intro p e s m args below meth c s₁ B hml hv
  obtain ⟨rfl, hsz, hP, hK, hD, hN⟩ := hv
  subst hsz
  have C : Cx p s m _ meth c cX1_orderOf (some .int) 4 RX1 lw_all := Cx_of B hml
  have X := Hx_start hP hK hD hN
  obtain ⟨hx, hb, hr, -, hown, hts, hlk⟩ := id C
  generalize va_A ([]) s.heap.size = A at X ⊢
  have hl := lv_entry ([.double x0, .double x1]) (n := 4) (Nat.le_of_ble_eq_true rfl)
  rw [lg_entry_eq]
  generalize (lg_sl ([.double x0, .double x1]) ++ List.replicate (4 - (lg_sl ([.double x0, .double x1])).length) Slot.unset).toArray = ls at hl ⊢
  have hl : lv_has ls 4 [(0, .double x0), (2, .double x1)] := hl
  unfold f_X1_orderOf at hF
  refine lv_dload_n hx hb dX1_orderOf_0 rfl (lv_at hl 0 rfl) ?_
  refine lv_dload_n hx hb dX1_orderOf_1 rfl (lv_at hl 1 rfl) ?_
  refine lv_dcmp hx hb dX1_orderOf_2 ?_
  refine lv_if_ge (tgt := 10) hx hb dX1_orderOf_3 (by decide) (fun c => ?_) (fun c => ?_)
  · replace hF := iT c hF
    refine lv_dload_n hx hb dX1_orderOf_10 rfl (lv_at hl 0 rfl) ?_
    refine lv_dload_n hx hb dX1_orderOf_11 rfl (lv_at hl 1 rfl) ?_
    refine lv_dcmp hx hb dX1_orderOf_12 ?_
    refine lv_if_le (tgt := 20) hx hb dX1_orderOf_13 (by decide) (fun c => ?_) (fun c => ?_)
    · replace hF := iT c hF
      refine lv_iconst (v := (0 : Int32)) hx hb dX1_orderOf_20 (by decide) ?_
      have hq := Option.some.inj hF
      subst hq
      exact rt_i C X dX1_orderOf_21
    · replace hF := iF c hF
      refine lv_iconst (v := (1 : Int32)) hx hb dX1_orderOf_16 (by decide) ?_
      refine lv_goto (tgt := 21) hx hb dX1_orderOf_17 (by decide) ?_
      have hq := Option.some.inj hF
      subst hq
      exact rt_i C X dX1_orderOf_21
  · replace hF := iF c hF
    refine lv_iconst (v := (-1 : Int32)) hx hb dX1_orderOf_6 (by decide) ?_
    refine lv_goto (tgt := 21) hx hb dX1_orderOf_7 (by decide) ?_
    have hq := Option.some.inj hF
    subst hq
    exact rt_i C X dX1_orderOf_21

/-! ### X1_holds -/
theorem dX1_holds_0 : decode cX1_holds 0 = .ok (.iload_n 0, 1) := by decide +kernel
theorem dX1_holds_1 : decode cX1_holds 1 = .ok (.tableswitch 85 55 59 #[35, 55, 45, 65, 75], 35) := by decide +kernel
theorem dX1_holds_36 : decode cX1_holds 36 = .ok (.iload_n 1, 1) := by decide +kernel
theorem dX1_holds_37 : decode cX1_holds 37 = .ok (.ifCond .ge 7, 3) := by decide +kernel
theorem dX1_holds_40 : decode cX1_holds 40 = .ok (.iconst 1, 1) := by decide +kernel
theorem dX1_holds_41 : decode cX1_holds 41 = .ok (.goto 4, 3) := by decide +kernel
theorem dX1_holds_44 : decode cX1_holds 44 = .ok (.iconst 0, 1) := by decide +kernel
theorem dX1_holds_45 : decode cX1_holds 45 = .ok (.ireturn, 1) := by decide +kernel
theorem dX1_holds_46 : decode cX1_holds 46 = .ok (.iload_n 1, 1) := by decide +kernel
theorem dX1_holds_47 : decode cX1_holds 47 = .ok (.ifCond .gt 7, 3) := by decide +kernel
theorem dX1_holds_50 : decode cX1_holds 50 = .ok (.iconst 1, 1) := by decide +kernel
theorem dX1_holds_51 : decode cX1_holds 51 = .ok (.goto 4, 3) := by decide +kernel
theorem dX1_holds_54 : decode cX1_holds 54 = .ok (.iconst 0, 1) := by decide +kernel
theorem dX1_holds_55 : decode cX1_holds 55 = .ok (.ireturn, 1) := by decide +kernel
theorem dX1_holds_56 : decode cX1_holds 56 = .ok (.iload_n 1, 1) := by decide +kernel
theorem dX1_holds_57 : decode cX1_holds 57 = .ok (.ifCond .le 7, 3) := by decide +kernel
theorem dX1_holds_60 : decode cX1_holds 60 = .ok (.iconst 1, 1) := by decide +kernel
theorem dX1_holds_61 : decode cX1_holds 61 = .ok (.goto 4, 3) := by decide +kernel
theorem dX1_holds_64 : decode cX1_holds 64 = .ok (.iconst 0, 1) := by decide +kernel
theorem dX1_holds_65 : decode cX1_holds 65 = .ok (.ireturn, 1) := by decide +kernel
theorem dX1_holds_66 : decode cX1_holds 66 = .ok (.iload_n 1, 1) := by decide +kernel
theorem dX1_holds_67 : decode cX1_holds 67 = .ok (.ifCond .lt 7, 3) := by decide +kernel
theorem dX1_holds_70 : decode cX1_holds 70 = .ok (.iconst 1, 1) := by decide +kernel
theorem dX1_holds_71 : decode cX1_holds 71 = .ok (.goto 4, 3) := by decide +kernel
theorem dX1_holds_74 : decode cX1_holds 74 = .ok (.iconst 0, 1) := by decide +kernel
theorem dX1_holds_75 : decode cX1_holds 75 = .ok (.ireturn, 1) := by decide +kernel
theorem dX1_holds_76 : decode cX1_holds 76 = .ok (.iload_n 1, 1) := by decide +kernel
theorem dX1_holds_77 : decode cX1_holds 77 = .ok (.ifCond .ne 7, 3) := by decide +kernel
theorem dX1_holds_80 : decode cX1_holds 80 = .ok (.iconst 1, 1) := by decide +kernel
theorem dX1_holds_81 : decode cX1_holds 81 = .ok (.goto 4, 3) := by decide +kernel
theorem dX1_holds_84 : decode cX1_holds 84 = .ok (.iconst 0, 1) := by decide +kernel
theorem dX1_holds_85 : decode cX1_holds 85 = .ok (.ireturn, 1) := by decide +kernel
theorem dX1_holds_86 : decode cX1_holds 86 = .ok (.iload_n 1, 1) := by decide +kernel
theorem dX1_holds_87 : decode cX1_holds 87 = .ok (.ifCond .eq 7, 3) := by decide +kernel
theorem dX1_holds_90 : decode cX1_holds 90 = .ok (.iconst 1, 1) := by decide +kernel
theorem dX1_holds_91 : decode cX1_holds 91 = .ok (.goto 4, 3) := by decide +kernel
theorem dX1_holds_94 : decode cX1_holds 94 = .ok (.iconst 0, 1) := by decide +kernel
theorem dX1_holds_95 : decode cX1_holds 95 = .ok (.ireturn, 1) := by decide +kernel
abbrev R_X1_holds : Room := ({ frames := 0, cells := 0, slots := 0, locals := 0 } : Room)
def f_X1_holds (x0 : Int32) (x1 : Int32) : Option (Int32) :=
  if x0 = (55 : Int32) then (if 0 ≤ x1 then (some (0 : Int32)) else (some (1 : Int32))) else (if x0 = (56 : Int32) then (if x1 ≤ 0 then (some (0 : Int32)) else (some (1 : Int32))) else (if x0 = (57 : Int32) then (if 0 < x1 then (some (0 : Int32)) else (some (1 : Int32))) else (if x0 = (58 : Int32) then (if x1 < 0 then (some (0 : Int32)) else (some (1 : Int32))) else (if x0 = (59 : Int32) then (if x1 = 0 then (some (1 : Int32)) else (some (0 : Int32))) else (if x1 = 0 then (some (0 : Int32)) else (some (1 : Int32)))))))
set_option maxHeartbeats 4000000 in
set_option maxRecDepth 100000 in
theorem c_X1_holds (l : Launch) (D : Dx) (x0 : Int32) (x1 : Int32) (q : Int32) (hF : f_X1_holds x0 x1 = some q) (sz : Nat) : Met l yX1_holds (ws_ yX1_holds cX1_holds 2 (some .boolean)) R_X1_holds (PC D ([]) [.int x0, .int x1] ([]) sz) (QI D (va_A ([]) sz) ([]) q) 0 0 (va_A ([]) sz) := by
  refine Met.ofW (cc := cX1_holds) (maxL := 2) (ret := (some .boolean)) (by decide) rfl ?_
  intro p e s m args below meth c s₁ B hml hv
  obtain ⟨rfl, hsz, hP, hK, hD, hN⟩ := hv
  subst hsz
  have C : Cx p s m _ meth c cX1_holds (some .boolean) 2 RX1 lw_all := Cx_of B hml
  have X := Hx_start hP hK hD hN
  obtain ⟨hx, hb, hr, -, hown, hts, hlk⟩ := id C
  generalize va_A ([]) s.heap.size = A at X ⊢
  have hl := lv_entry ([.int x0, .int x1]) (n := 2) (Nat.le_of_ble_eq_true rfl)
  rw [lg_entry_eq]
  generalize (lg_sl ([.int x0, .int x1]) ++ List.replicate (2 - (lg_sl ([.int x0, .int x1])).length) Slot.unset).toArray = ls at hl ⊢
  have hl : lv_has ls 2 [(0, .int x0), (1, .int x1)] := hl
  unfold f_X1_holds at hF
  refine lv_iload_n hx hb dX1_holds_0 rfl (lv_at hl 0 rfl) ?_
  by_cases c55 : x0 = (55 : Int32)
  · replace hF := iT c55 hF
    refine lv_tableIn (tgt := 36) (off := 35) hx hb dX1_holds_1 (by rw [c55]; decide) (by rw [c55]; decide) (by rw [c55]; rfl) (by decide) ?_
    refine lv_iload_n hx hb dX1_holds_36 rfl (lv_at hl 1 rfl) ?_
    refine lv_if_ge (tgt := 44) hx hb dX1_holds_37 (by decide) (fun c => ?_) (fun c => ?_)
    · replace hF := iT c hF
      refine lv_iconst (v := (0 : Int32)) hx hb dX1_holds_44 (by decide) ?_
      have hq := Option.some.inj hF
      subst hq
      exact rt_z (v := (0 : Int32)) C X (by decide) dX1_holds_45
    · replace hF := iF c hF
      refine lv_iconst (v := (1 : Int32)) hx hb dX1_holds_40 (by decide) ?_
      refine lv_goto (tgt := 45) hx hb dX1_holds_41 (by decide) ?_
      have hq := Option.some.inj hF
      subst hq
      exact rt_z (v := (1 : Int32)) C X (by decide) dX1_holds_45
  · replace hF := iF c55 hF
    by_cases c56 : x0 = (56 : Int32)
    · replace hF := iT c56 hF
      refine lv_tableIn (tgt := 56) (off := 55) hx hb dX1_holds_1 (by rw [c56]; decide) (by rw [c56]; decide) (by rw [c56]; rfl) (by decide) ?_
      refine lv_iload_n hx hb dX1_holds_56 rfl (lv_at hl 1 rfl) ?_
      refine lv_if_le (tgt := 64) hx hb dX1_holds_57 (by decide) (fun c => ?_) (fun c => ?_)
      · replace hF := iT c hF
        refine lv_iconst (v := (0 : Int32)) hx hb dX1_holds_64 (by decide) ?_
        have hq := Option.some.inj hF
        subst hq
        exact rt_z (v := (0 : Int32)) C X (by decide) dX1_holds_65
      · replace hF := iF c hF
        refine lv_iconst (v := (1 : Int32)) hx hb dX1_holds_60 (by decide) ?_
        refine lv_goto (tgt := 65) hx hb dX1_holds_61 (by decide) ?_
        have hq := Option.some.inj hF
        subst hq
        exact rt_z (v := (1 : Int32)) C X (by decide) dX1_holds_65
    · replace hF := iF c56 hF
      by_cases c57 : x0 = (57 : Int32)
      · replace hF := iT c57 hF
        refine lv_tableIn (tgt := 46) (off := 45) hx hb dX1_holds_1 (by rw [c57]; decide) (by rw [c57]; decide) (by rw [c57]; rfl) (by decide) ?_
        refine lv_iload_n hx hb dX1_holds_46 rfl (lv_at hl 1 rfl) ?_
        refine lv_if_gt (tgt := 54) hx hb dX1_holds_47 (by decide) (fun c => ?_) (fun c => ?_)
        · replace hF := iT c hF
          refine lv_iconst (v := (0 : Int32)) hx hb dX1_holds_54 (by decide) ?_
          have hq := Option.some.inj hF
          subst hq
          exact rt_z (v := (0 : Int32)) C X (by decide) dX1_holds_55
        · replace hF := iF c hF
          refine lv_iconst (v := (1 : Int32)) hx hb dX1_holds_50 (by decide) ?_
          refine lv_goto (tgt := 55) hx hb dX1_holds_51 (by decide) ?_
          have hq := Option.some.inj hF
          subst hq
          exact rt_z (v := (1 : Int32)) C X (by decide) dX1_holds_55
      · replace hF := iF c57 hF
        by_cases c58 : x0 = (58 : Int32)
        · replace hF := iT c58 hF
          refine lv_tableIn (tgt := 66) (off := 65) hx hb dX1_holds_1 (by rw [c58]; decide) (by rw [c58]; decide) (by rw [c58]; rfl) (by decide) ?_
          refine lv_iload_n hx hb dX1_holds_66 rfl (lv_at hl 1 rfl) ?_
          refine lv_if_lt (tgt := 74) hx hb dX1_holds_67 (by decide) (fun c => ?_) (fun c => ?_)
          · replace hF := iT c hF
            refine lv_iconst (v := (0 : Int32)) hx hb dX1_holds_74 (by decide) ?_
            have hq := Option.some.inj hF
            subst hq
            exact rt_z (v := (0 : Int32)) C X (by decide) dX1_holds_75
          · replace hF := iF c hF
            refine lv_iconst (v := (1 : Int32)) hx hb dX1_holds_70 (by decide) ?_
            refine lv_goto (tgt := 75) hx hb dX1_holds_71 (by decide) ?_
            have hq := Option.some.inj hF
            subst hq
            exact rt_z (v := (1 : Int32)) C X (by decide) dX1_holds_75
        · replace hF := iF c58 hF
          by_cases c59 : x0 = (59 : Int32)
          · replace hF := iT c59 hF
            refine lv_tableIn (tgt := 76) (off := 75) hx hb dX1_holds_1 (by rw [c59]; decide) (by rw [c59]; decide) (by rw [c59]; rfl) (by decide) ?_
            refine lv_iload_n hx hb dX1_holds_76 rfl (lv_at hl 1 rfl) ?_
            refine lv_if_ne (tgt := 84) hx hb dX1_holds_77 (by decide) (fun c => ?_) (fun c => ?_)
            · replace hF := iF c hF
              refine lv_iconst (v := (0 : Int32)) hx hb dX1_holds_84 (by decide) ?_
              have hq := Option.some.inj hF
              subst hq
              exact rt_z (v := (0 : Int32)) C X (by decide) dX1_holds_85
            · replace hF := iT c hF
              refine lv_iconst (v := (1 : Int32)) hx hb dX1_holds_80 (by decide) ?_
              refine lv_goto (tgt := 85) hx hb dX1_holds_81 (by decide) ?_
              have hq := Option.some.inj hF
              subst hq
              exact rt_z (v := (1 : Int32)) C X (by decide) dX1_holds_85
          · replace hF := iF c59 hF
            refine lv_tableOut (tgt := 86) hx hb dX1_holds_1 (tbl_out (55) (59) 5 (by decide) ⟨tne c55 (by decide), ⟨tne c56 (by decide), ⟨tne c57 (by decide), ⟨tne c58 (by decide), ⟨tne c59 (by decide), trivial⟩⟩⟩⟩⟩) (by decide) ?_
            refine lv_iload_n hx hb dX1_holds_86 rfl (lv_at hl 1 rfl) ?_
            refine lv_if_eq (tgt := 94) hx hb dX1_holds_87 (by decide) (fun c => ?_) (fun c => ?_)
            · replace hF := iT c hF
              refine lv_iconst (v := (0 : Int32)) hx hb dX1_holds_94 (by decide) ?_
              have hq := Option.some.inj hF
              subst hq
              exact rt_z (v := (0 : Int32)) C X (by decide) dX1_holds_95
            · replace hF := iF c hF
              refine lv_iconst (v := (1 : Int32)) hx hb dX1_holds_90 (by decide) ?_
              refine lv_goto (tgt := 95) hx hb dX1_holds_91 (by decide) ?_
              have hq := Option.some.inj hF
              subst hq
              exact rt_z (v := (1 : Int32)) C X (by decide) dX1_holds_95

/-! ### X1_workWholes -/
theorem dX1_workWholes_0 : decode cX1_workWholes 0 = .ok (.iload_n 1, 1) := by decide +kernel
theorem dX1_workWholes_1 : decode cX1_workWholes 1 = .ok (.bipush 52, 2) := by decide +kernel
theorem dX1_workWholes_3 : decode cX1_workWholes 3 = .ok (.if_icmp .eq 9, 3) := by decide +kernel
theorem dX1_workWholes_6 : decode cX1_workWholes 6 = .ok (.iload_n 1, 1) := by decide +kernel
theorem dX1_workWholes_7 : decode cX1_workWholes 7 = .ok (.bipush 53, 2) := by decide +kernel
theorem dX1_workWholes_9 : decode cX1_workWholes 9 = .ok (.if_icmp .ne 17, 3) := by decide +kernel
theorem dX1_workWholes_12 : decode cX1_workWholes 12 = .ok (.lload 4, 2) := by decide +kernel
theorem dX1_workWholes_14 : decode cX1_workWholes 14 = .ok (.lconst 0, 1) := by decide +kernel
theorem dX1_workWholes_15 : decode cX1_workWholes 15 = .ok (.lcmp, 1) := by decide +kernel
theorem dX1_workWholes_16 : decode cX1_workWholes 16 = .ok (.ifCond .ne 10, 3) := by decide +kernel
theorem dX1_workWholes_19 : decode cX1_workWholes 19 = .ok (.aload_n 0, 1) := by decide +kernel
theorem dX1_workWholes_20 : decode cX1_workWholes 20 = .ok (.iconst 1, 1) := by decide +kernel
theorem dX1_workWholes_21 : decode cX1_workWholes 21 = .ok (.putfield 23, 3) := by decide +kernel
theorem dX1_workWholes_24 : decode cX1_workWholes 24 = .ok (.lconst 0, 1) := by decide +kernel
theorem dX1_workWholes_25 : decode cX1_workWholes 25 = .ok (.lreturn, 1) := by decide +kernel
theorem dX1_workWholes_26 : decode cX1_workWholes 26 = .ok (.iload_n 1, 1) := by decide +kernel
theorem dX1_workWholes_27 : decode cX1_workWholes 27 = .ok (.lookupswitch 89 #[(23, 82), (49, 57), (50, 62), (51, 67), (52, 72), (53, 77)], 57) := by decide +kernel
theorem dX1_workWholes_84 : decode cX1_workWholes 84 = .ok (.lload_n 2, 1) := by decide +kernel
theorem dX1_workWholes_85 : decode cX1_workWholes 85 = .ok (.lload 4, 2) := by decide +kernel
theorem dX1_workWholes_87 : decode cX1_workWholes 87 = .ok (.ladd, 1) := by decide +kernel
theorem dX1_workWholes_88 : decode cX1_workWholes 88 = .ok (.lreturn, 1) := by decide +kernel
theorem dX1_workWholes_89 : decode cX1_workWholes 89 = .ok (.lload_n 2, 1) := by decide +kernel
theorem dX1_workWholes_90 : decode cX1_workWholes 90 = .ok (.lload 4, 2) := by decide +kernel
theorem dX1_workWholes_92 : decode cX1_workWholes 92 = .ok (.lsub, 1) := by decide +kernel
theorem dX1_workWholes_93 : decode cX1_workWholes 93 = .ok (.lreturn, 1) := by decide +kernel
theorem dX1_workWholes_94 : decode cX1_workWholes 94 = .ok (.lload_n 2, 1) := by decide +kernel
theorem dX1_workWholes_95 : decode cX1_workWholes 95 = .ok (.lload 4, 2) := by decide +kernel
theorem dX1_workWholes_97 : decode cX1_workWholes 97 = .ok (.lmul, 1) := by decide +kernel
theorem dX1_workWholes_98 : decode cX1_workWholes 98 = .ok (.lreturn, 1) := by decide +kernel
theorem dX1_workWholes_99 : decode cX1_workWholes 99 = .ok (.lload_n 2, 1) := by decide +kernel
theorem dX1_workWholes_100 : decode cX1_workWholes 100 = .ok (.lload 4, 2) := by decide +kernel
theorem dX1_workWholes_102 : decode cX1_workWholes 102 = .ok (.ldiv, 1) := by decide +kernel
theorem dX1_workWholes_103 : decode cX1_workWholes 103 = .ok (.lreturn, 1) := by decide +kernel
theorem dX1_workWholes_104 : decode cX1_workWholes 104 = .ok (.lload_n 2, 1) := by decide +kernel
theorem dX1_workWholes_105 : decode cX1_workWholes 105 = .ok (.lload 4, 2) := by decide +kernel
theorem dX1_workWholes_107 : decode cX1_workWholes 107 = .ok (.lrem, 1) := by decide +kernel
theorem dX1_workWholes_108 : decode cX1_workWholes 108 = .ok (.lreturn, 1) := by decide +kernel
theorem dX1_workWholes_109 : decode cX1_workWholes 109 = .ok (.lload_n 2, 1) := by decide +kernel
theorem dX1_workWholes_110 : decode cX1_workWholes 110 = .ok (.lload 4, 2) := by decide +kernel
theorem dX1_workWholes_112 : decode cX1_workWholes 112 = .ok (.invokestatic 220, 3) := by decide +kernel
theorem dX1_workWholes_115 : decode cX1_workWholes 115 = .ok (.lreturn, 1) := by decide +kernel
theorem dX1_workWholes_116 : decode cX1_workWholes 116 = .ok (.lload_n 2, 1) := by decide +kernel
theorem dX1_workWholes_117 : decode cX1_workWholes 117 = .ok (.lload 4, 2) := by decide +kernel
theorem dX1_workWholes_119 : decode cX1_workWholes 119 = .ok (.invokestatic 224, 3) := by decide +kernel
theorem dX1_workWholes_122 : decode cX1_workWholes 122 = .ok (.lreturn, 1) := by decide +kernel
abbrev R_X1_workWholes : Room := ({ frames := 1, cells := 0, slots := 0, locals := 64 } : Room)
def b_X1_workWholes_26 (gT : Gs) (v1 : Int32) (v2 : Int64) (v4 : Int64) : Option (Int64 × Gs) :=
  if v1 = (23 : Int32) then (some ((if v4 < v2 then v4 else v2), gT)) else (if v1 = (49 : Int32) then (some (v2 + v4, gT)) else (if v1 = (50 : Int32) then (some (v2 - v4, gT)) else (if v1 = (51 : Int32) then (some (v2 * v4, gT)) else (if v1 = (52 : Int32) then (grd (nzL v4) (some (v2 / v4, gT))) else (if v1 = (53 : Int32) then (grd (nzL v4) (some (v2 - v2 / v4 * v4, gT))) else (some ((if v4 < v2 then v2 else v4), gT)))))))
def b_X1_workWholes_12 (gT : Gs) (v1 : Int32) (v2 : Int64) (v4 : Int64) : Option (Int64 × Gs) :=
  if v4 = (0 : Int64) then (some ((0 : Int64), (sI gT 5 (1 : Int32)))) else (b_X1_workWholes_26 gT v1 v2 v4)
def f_X1_workWholes (gT : Gs) (x0 : Int32) (x1 : Int64) (x2 : Int64) : Option (Int64 × Gs) :=
  if x0 = (52 : Int32) then (b_X1_workWholes_12 gT x0 x1 x2) else (if x0 = (53 : Int32) then (b_X1_workWholes_12 gT x0 x1 x2) else (b_X1_workWholes_26 gT x0 x1 x2))
def S_X1_workWholes_26 (l : Launch) (D : Dx) (hT : Nat) (aT : Nat → Nat) (yT : Nat → ClassId) (fn : Gs → Int32 → Int64 → Int64 → Option (Int64 × Gs)) : Prop :=
  ∀ {p : Program} {e : Env} {s : State} {m : MethodId} {args : Array Value} {below : List Frame} {meth : Method} {c : Code} {H : Heap} {locs : List Loc} {A : Nat → Prop} {ls : Array Slot} {gT : Gs} {v1 : Int32} {v2 : Int64} {v4 : Int64} {q : Int64 × Gs}, Cx p s m args meth c cX1_workWholes (some .long) 6 RX1 lw_all → Hx D (tX1 yT) A s H locs (wX1 hT aT yT gT) → lv_has ls 6 [(1, .int v1), (2, .long v2), (4, .long v4)] → fn gT v1 v2 v4 = some q → W p l e R_X1_workWholes s m args below meth c H locs 0 0 (MQ below (QL D A (wX1 hT aT yT q.2) q.1) args s 0 0 A) (F0 m 26 ls [])
def S_X1_workWholes_12 (l : Launch) (D : Dx) (hT : Nat) (aT : Nat → Nat) (yT : Nat → ClassId) (fn : Gs → Int32 → Int64 → Int64 → Option (Int64 × Gs)) : Prop :=
  ∀ {p : Program} {e : Env} {s : State} {m : MethodId} {args : Array Value} {below : List Frame} {meth : Method} {c : Code} {H : Heap} {locs : List Loc} {A : Nat → Prop} {ls : Array Slot} {gT : Gs} {v1 : Int32} {v2 : Int64} {v4 : Int64} {q : Int64 × Gs}, Cx p s m args meth c cX1_workWholes (some .long) 6 RX1 lw_all → Hx D (tX1 yT) A s H locs (wX1 hT aT yT gT) → lv_has ls 6 [(0, .ref hT), (1, .int v1), (2, .long v2), (4, .long v4)] → fn gT v1 v2 v4 = some q → W p l e R_X1_workWholes s m args below meth c H locs 0 0 (MQ below (QL D A (wX1 hT aT yT q.2) q.1) args s 0 0 A) (F0 m 12 ls [])
set_option maxHeartbeats 4000000 in
set_option maxRecDepth 100000 in
theorem k_X1_workWholes_26 (l : Launch) (D : Dx) (hT : Nat) (aT : Nat → Nat) (yT : Nat → ClassId) : S_X1_workWholes_26 l D hT aT yT (b_X1_workWholes_26) := by
  intro p e s m args below meth c H locs A ls gT v1 v2 v4 q C X hl hF
  obtain ⟨hx, hb, hr, hml, hown, hts, hlk⟩ := id C
  unfold b_X1_workWholes_26 at hF
  refine lv_iload_n hx hb dX1_workWholes_26 rfl (lv_at hl 0 rfl) ?_
  by_cases c23 : v1 = (23 : Int32)
  · replace hF := iT c23 hF
    refine lv_lookup (tgt := 109) (off := 82) hx hb dX1_workWholes_27 (by decide) (by rw [c23]; rfl) (by decide) ?_
    refine lv_lload_n hx hb dX1_workWholes_109 rfl (lv_at hl 1 rfl) ?_
    refine lv_lload hx hb dX1_workWholes_110 (lv_at hl 2 rfl) ?_
    refine va_mmin_long hx hb (by rw [hml]; exact hl.1.symm) hown (hts _ q5_134) (hts _ q5_135) (hts _ q1_14) (hts _ q5_136) (Nat.le_of_ble_eq_true rfl) (Nat.le_of_ble_eq_true rfl) (Nat.le_of_ble_eq_true rfl) (Nat.le_of_ble_eq_true rfl) dX1_workWholes_112 ?_
    have hq := Option.some.inj hF
    subst hq
    exact rt_l C X dX1_workWholes_115
  · replace hF := iF c23 hF
    by_cases c49 : v1 = (49 : Int32)
    · replace hF := iT c49 hF
      refine lv_lookup (tgt := 84) (off := 57) hx hb dX1_workWholes_27 (by decide) (by rw [c49]; rfl) (by decide) ?_
      refine lv_lload_n hx hb dX1_workWholes_84 rfl (lv_at hl 1 rfl) ?_
      refine lv_lload hx hb dX1_workWholes_85 (lv_at hl 2 rfl) ?_
      refine lv_ladd hx hb dX1_workWholes_87 ?_
      have hq := Option.some.inj hF
      subst hq
      exact rt_l C X dX1_workWholes_88
    · replace hF := iF c49 hF
      by_cases c50 : v1 = (50 : Int32)
      · replace hF := iT c50 hF
        refine lv_lookup (tgt := 89) (off := 62) hx hb dX1_workWholes_27 (by decide) (by rw [c50]; rfl) (by decide) ?_
        refine lv_lload_n hx hb dX1_workWholes_89 rfl (lv_at hl 1 rfl) ?_
        refine lv_lload hx hb dX1_workWholes_90 (lv_at hl 2 rfl) ?_
        refine lv_lsub hx hb dX1_workWholes_92 ?_
        have hq := Option.some.inj hF
        subst hq
        exact rt_l C X dX1_workWholes_93
      · replace hF := iF c50 hF
        by_cases c51 : v1 = (51 : Int32)
        · replace hF := iT c51 hF
          refine lv_lookup (tgt := 94) (off := 67) hx hb dX1_workWholes_27 (by decide) (by rw [c51]; rfl) (by decide) ?_
          refine lv_lload_n hx hb dX1_workWholes_94 rfl (lv_at hl 1 rfl) ?_
          refine lv_lload hx hb dX1_workWholes_95 (lv_at hl 2 rfl) ?_
          refine lv_lmul hx hb dX1_workWholes_97 ?_
          have hq := Option.some.inj hF
          subst hq
          exact rt_l C X dX1_workWholes_98
        · replace hF := iF c51 hF
          by_cases c52 : v1 = (52 : Int32)
          · replace hF := iT c52 hF
            refine lv_lookup (tgt := 99) (off := 72) hx hb dX1_workWholes_27 (by decide) (by rw [c52]; rfl) (by decide) ?_
            refine lv_lload_n hx hb dX1_workWholes_99 rfl (lv_at hl 1 rfl) ?_
            refine lv_lload hx hb dX1_workWholes_100 (lv_at hl 2 rfl) ?_
            obtain ⟨h_1, hF⟩ := grd_some hF
            refine lv_ldiv hx hb dX1_workWholes_102 (nzL_ok h_1) ?_
            have hq := Option.some.inj hF
            subst hq
            exact rt_l C X dX1_workWholes_103
          · replace hF := iF c52 hF
            by_cases c53 : v1 = (53 : Int32)
            · replace hF := iT c53 hF
              refine lv_lookup (tgt := 104) (off := 77) hx hb dX1_workWholes_27 (by decide) (by rw [c53]; rfl) (by decide) ?_
              refine lv_lload_n hx hb dX1_workWholes_104 rfl (lv_at hl 1 rfl) ?_
              refine lv_lload hx hb dX1_workWholes_105 (lv_at hl 2 rfl) ?_
              obtain ⟨h_2, hF⟩ := grd_some hF
              refine lv_lrem hx hb dX1_workWholes_107 (nzL_ok h_2) ?_
              have hq := Option.some.inj hF
              subst hq
              exact rt_l C X dX1_workWholes_108
            · replace hF := iF c53 hF
              refine lv_lookup (tgt := 116) (off := 89) hx hb dX1_workWholes_27 (by decide) (lkc (tneS c23 (by decide)) (lkc (tneS c49 (by decide)) (lkc (tneS c50 (by decide)) (lkc (tneS c51 (by decide)) (lkc (tneS c52 (by decide)) (lkc (tneS c53 (by decide)) lkn)))))) (by decide) ?_
              refine lv_lload_n hx hb dX1_workWholes_116 rfl (lv_at hl 1 rfl) ?_
              refine lv_lload hx hb dX1_workWholes_117 (lv_at hl 2 rfl) ?_
              refine va_mmax_long hx hb (by rw [hml]; exact hl.1.symm) hown (hts _ q5_137) (hts _ q5_138) (hts _ q1_14) (hts _ q5_139) (Nat.le_of_ble_eq_true rfl) (Nat.le_of_ble_eq_true rfl) (Nat.le_of_ble_eq_true rfl) (Nat.le_of_ble_eq_true rfl) dX1_workWholes_119 ?_
              have hq := Option.some.inj hF
              subst hq
              exact rt_l C X dX1_workWholes_122
set_option maxHeartbeats 4000000 in
set_option maxRecDepth 100000 in
theorem k_X1_workWholes_12 (l : Launch) (D : Dx) (hT : Nat) (aT : Nat → Nat) (yT : Nat → ClassId) : S_X1_workWholes_12 l D hT aT yT (b_X1_workWholes_12) := by
  intro p e s m args below meth c H locs A ls gT v1 v2 v4 q C X hl hF
  obtain ⟨hx, hb, hr, hml, hown, hts, hlk⟩ := id C
  unfold b_X1_workWholes_12 at hF
  refine lv_lload hx hb dX1_workWholes_12 (lv_at hl 3 rfl) ?_
  refine lv_lconst (v := (0 : Int64)) hx hb dX1_workWholes_14 (by decide) ?_
  refine W.lcmp hx hb dX1_workWholes_15 ?_
  refine lv_if_ne (tgt := 26) hx hb dX1_workWholes_16 (by decide) (fun c => ?_) (fun c => ?_)
  · have c := fun h => c ((lg_cmp_eq _ _).mpr h)
    replace hF := iF c hF
    exact (k_X1_workWholes_26 l D hT aT yT) C X (lv_sub hl [1, 2, 3] rfl) hF
  · have c := (lg_cmp_eq _ _).mp c
    replace hF := iT c hF
    refine lv_aload_n hx hb dX1_workWholes_19 rfl (lv_at hl 0 rfl) ?_
    refine lv_iconst (v := (1 : Int32)) hx hb dX1_workWholes_20 (by decide) ?_
    refine va_put (D := D.1) (ci := 1) (v := .int (1 : Int32)) (ty := .int) (C := RX1) (T := TX1) (N := 7) hx hb hts wi_X1 tyX1 tyX1_ok nmX1 hown X.1 X.2.1 X.2.2.1 X.2.2.2.1 0 rfl rfl 5 (by decide) (hts _ q1_144) (fun _ h9 => h9) rfl (by decide +kernel) rfl rfl (by rw [List.length_map, List.length_range]; decide) dX1_workWholes_21 (fun H locs hP hD hS => ?_)
    have X : Hx D (tX1 yT) A s H locs (wX1 hT aT yT (sI gT 5 (1 : Int32))) := Hx_set X (wG_sI (k := 5) rfl) hP hD hS
    refine lv_lconst (v := (0 : Int64)) hx hb dX1_workWholes_24 (by decide) ?_
    have hq := Option.some.inj hF
    subst hq
    exact rt_l C X dX1_workWholes_25
set_option maxHeartbeats 4000000 in
set_option maxRecDepth 100000 in
theorem c_X1_workWholes (l : Launch) (D : Dx) (hT : Nat) (aT : Nat → Nat) (yT : Nat → ClassId) (gT : Gs) (x0 : Int32) (x1 : Int64) (x2 : Int64) (q : Int64 × Gs) (hF : f_X1_workWholes gT x0 x1 x2 = some q) (sz : Nat) : Met l yX1_workWholes (ws_ yX1_workWholes cX1_workWholes 6 (some .long)) R_X1_workWholes (PC D (tX1 yT) [.ref hT, .int x0, .long x1, .long x2] (wX1 hT aT yT gT) sz) (QL D (va_A (wX1 hT aT yT gT) sz) (wX1 hT aT yT q.2) q.1) 0 0 (va_A (wX1 hT aT yT gT) sz) := by
  refine Met.ofW (cc := cX1_workWholes) (maxL := 6) (ret := (some .long)) (by decide) rfl ?_
  intro p e s m args below meth c s₁ B hml hv
  obtain ⟨rfl, hsz, hP, hK, hD, hN⟩ := hv
  subst hsz
  have C : Cx p s m _ meth c cX1_workWholes (some .long) 6 RX1 lw_all := Cx_of B hml
  have X := Hx_start hP hK hD hN
  obtain ⟨hx, hb, hr, -, hown, hts, hlk⟩ := id C
  generalize va_A (wX1 hT aT yT gT) s.heap.size = A at X ⊢
  have hl := lv_entry ([.ref hT, .int x0, .long x1, .long x2]) (n := 6) (Nat.le_of_ble_eq_true rfl)
  rw [lg_entry_eq]
  generalize (lg_sl ([.ref hT, .int x0, .long x1, .long x2]) ++ List.replicate (6 - (lg_sl ([.ref hT, .int x0, .long x1, .long x2])).length) Slot.unset).toArray = ls at hl ⊢
  have hl : lv_has ls 6 [(0, .ref hT), (1, .int x0), (2, .long x1), (4, .long x2)] := hl
  unfold f_X1_workWholes at hF
  refine lv_iload_n hx hb dX1_workWholes_0 rfl (lv_at hl 1 rfl) ?_
  refine lv_bipush (v := (52 : Int32)) hx hb dX1_workWholes_1 (by decide) ?_
  refine lv_icmp_eq (tgt := 12) hx hb dX1_workWholes_3 (by decide) (fun c => ?_) (fun c => ?_)
  · replace hF := iT c hF
    exact (k_X1_workWholes_12 l D hT aT yT) C X (lv_sub hl [0, 1, 2, 3] rfl) hF
  · replace hF := iF c hF
    refine lv_iload_n hx hb dX1_workWholes_6 rfl (lv_at hl 1 rfl) ?_
    refine lv_bipush (v := (53 : Int32)) hx hb dX1_workWholes_7 (by decide) ?_
    refine lv_icmp_ne (tgt := 26) hx hb dX1_workWholes_9 (by decide) (fun c => ?_) (fun c => ?_)
    · replace hF := iF c hF
      exact (k_X1_workWholes_26 l D hT aT yT) C X (lv_sub hl [1, 2, 3] rfl) hF
    · replace hF := iT c hF
      exact (k_X1_workWholes_12 l D hT aT yT) C X (lv_sub hl [0, 1, 2, 3] rfl) hF

/-! ### X1_ofDoubles -/
theorem dX1_ofDoubles_0 : decode cX1_ofDoubles 0 = .ok (.iload_n 0, 1) := by decide +kernel
theorem dX1_ofDoubles_1 : decode cX1_ofDoubles 1 = .ok (.tableswitch 39 49 51 #[27, 31, 35], 27) := by decide +kernel
theorem dX1_ofDoubles_28 : decode cX1_ofDoubles 28 = .ok (.dload_n 1, 1) := by decide +kernel
theorem dX1_ofDoubles_29 : decode cX1_ofDoubles 29 = .ok (.dload_n 3, 1) := by decide +kernel
theorem dX1_ofDoubles_30 : decode cX1_ofDoubles 30 = .ok (.dadd, 1) := by decide +kernel
theorem dX1_ofDoubles_31 : decode cX1_ofDoubles 31 = .ok (.dreturn, 1) := by decide +kernel
theorem dX1_ofDoubles_32 : decode cX1_ofDoubles 32 = .ok (.dload_n 1, 1) := by decide +kernel
theorem dX1_ofDoubles_33 : decode cX1_ofDoubles 33 = .ok (.dload_n 3, 1) := by decide +kernel
theorem dX1_ofDoubles_34 : decode cX1_ofDoubles 34 = .ok (.dsub, 1) := by decide +kernel
theorem dX1_ofDoubles_35 : decode cX1_ofDoubles 35 = .ok (.dreturn, 1) := by decide +kernel
theorem dX1_ofDoubles_36 : decode cX1_ofDoubles 36 = .ok (.dload_n 1, 1) := by decide +kernel
theorem dX1_ofDoubles_37 : decode cX1_ofDoubles 37 = .ok (.dload_n 3, 1) := by decide +kernel
theorem dX1_ofDoubles_38 : decode cX1_ofDoubles 38 = .ok (.dmul, 1) := by decide +kernel
theorem dX1_ofDoubles_39 : decode cX1_ofDoubles 39 = .ok (.dreturn, 1) := by decide +kernel
theorem dX1_ofDoubles_40 : decode cX1_ofDoubles 40 = .ok (.dload_n 1, 1) := by decide +kernel
theorem dX1_ofDoubles_41 : decode cX1_ofDoubles 41 = .ok (.dload_n 3, 1) := by decide +kernel
theorem dX1_ofDoubles_42 : decode cX1_ofDoubles 42 = .ok (.ddiv, 1) := by decide +kernel
theorem dX1_ofDoubles_43 : decode cX1_ofDoubles 43 = .ok (.dreturn, 1) := by decide +kernel
abbrev R_X1_ofDoubles : Room := ({ frames := 0, cells := 0, slots := 0, locals := 0 } : Room)
def f_X1_ofDoubles (x0 : Int32) (x1 : UInt64) (x2 : UInt64) : Option (UInt64) :=
  if x0 = (49 : Int32) then (grd (n64 (FP.dadd x1 x2)) (some (FP.dadd x1 x2))) else (if x0 = (50 : Int32) then (grd (n64 (FP.dsub x1 x2)) (some (FP.dsub x1 x2))) else (if x0 = (51 : Int32) then (grd (n64 (FP.dmul x1 x2)) (some (FP.dmul x1 x2))) else (grd (n64 (FP.ddiv x1 x2)) (some (FP.ddiv x1 x2)))))
set_option maxHeartbeats 4000000 in
set_option maxRecDepth 100000 in
theorem c_X1_ofDoubles (l : Launch) (D : Dx) (x0 : Int32) (x1 : UInt64) (x2 : UInt64) (q : UInt64) (hF : f_X1_ofDoubles x0 x1 x2 = some q) (sz : Nat) : Met l yX1_ofDoubles (ws_ yX1_ofDoubles cX1_ofDoubles 5 (some .double)) R_X1_ofDoubles (PC D ([]) [.int x0, .double x1, .double x2] ([]) sz) (QD D (va_A ([]) sz) ([]) q) 0 0 (va_A ([]) sz) := by
  refine Met.ofW (cc := cX1_ofDoubles) (maxL := 5) (ret := (some .double)) (by decide) rfl ?_
  intro p e s m args below meth c s₁ B hml hv
  obtain ⟨rfl, hsz, hP, hK, hD, hN⟩ := hv
  subst hsz
  have C : Cx p s m _ meth c cX1_ofDoubles (some .double) 5 RX1 lw_all := Cx_of B hml
  have X := Hx_start hP hK hD hN
  obtain ⟨hx, hb, hr, -, hown, hts, hlk⟩ := id C
  generalize va_A ([]) s.heap.size = A at X ⊢
  have hl := lv_entry ([.int x0, .double x1, .double x2]) (n := 5) (Nat.le_of_ble_eq_true rfl)
  rw [lg_entry_eq]
  generalize (lg_sl ([.int x0, .double x1, .double x2]) ++ List.replicate (5 - (lg_sl ([.int x0, .double x1, .double x2])).length) Slot.unset).toArray = ls at hl ⊢
  have hl : lv_has ls 5 [(0, .int x0), (1, .double x1), (3, .double x2)] := hl
  unfold f_X1_ofDoubles at hF
  refine lv_iload_n hx hb dX1_ofDoubles_0 rfl (lv_at hl 0 rfl) ?_
  by_cases c49 : x0 = (49 : Int32)
  · replace hF := iT c49 hF
    refine lv_tableIn (tgt := 28) (off := 27) hx hb dX1_ofDoubles_1 (by rw [c49]; decide) (by rw [c49]; decide) (by rw [c49]; rfl) (by decide) ?_
    refine lv_dload_n hx hb dX1_ofDoubles_28 rfl (lv_at hl 1 rfl) ?_
    refine lv_dload_n hx hb dX1_ofDoubles_29 rfl (lv_at hl 2 rfl) ?_
    obtain ⟨h_1, hF⟩ := grd_some hF
    refine lv_dadd hx hb dX1_ofDoubles_30 (n64_ok h_1) ?_
    have hq := Option.some.inj hF
    subst hq
    exact rt_d C X dX1_ofDoubles_31
  · replace hF := iF c49 hF
    by_cases c50 : x0 = (50 : Int32)
    · replace hF := iT c50 hF
      refine lv_tableIn (tgt := 32) (off := 31) hx hb dX1_ofDoubles_1 (by rw [c50]; decide) (by rw [c50]; decide) (by rw [c50]; rfl) (by decide) ?_
      refine lv_dload_n hx hb dX1_ofDoubles_32 rfl (lv_at hl 1 rfl) ?_
      refine lv_dload_n hx hb dX1_ofDoubles_33 rfl (lv_at hl 2 rfl) ?_
      obtain ⟨h_2, hF⟩ := grd_some hF
      refine lv_dsub hx hb dX1_ofDoubles_34 (n64_ok h_2) ?_
      have hq := Option.some.inj hF
      subst hq
      exact rt_d C X dX1_ofDoubles_35
    · replace hF := iF c50 hF
      by_cases c51 : x0 = (51 : Int32)
      · replace hF := iT c51 hF
        refine lv_tableIn (tgt := 36) (off := 35) hx hb dX1_ofDoubles_1 (by rw [c51]; decide) (by rw [c51]; decide) (by rw [c51]; rfl) (by decide) ?_
        refine lv_dload_n hx hb dX1_ofDoubles_36 rfl (lv_at hl 1 rfl) ?_
        refine lv_dload_n hx hb dX1_ofDoubles_37 rfl (lv_at hl 2 rfl) ?_
        obtain ⟨h_3, hF⟩ := grd_some hF
        refine lv_dmul hx hb dX1_ofDoubles_38 (n64_ok h_3) ?_
        have hq := Option.some.inj hF
        subst hq
        exact rt_d C X dX1_ofDoubles_39
      · replace hF := iF c51 hF
        refine lv_tableOut (tgt := 40) hx hb dX1_ofDoubles_1 (tbl_out (49) (51) 3 (by decide) ⟨tne c49 (by decide), ⟨tne c50 (by decide), ⟨tne c51 (by decide), trivial⟩⟩⟩) (by decide) ?_
        refine lv_dload_n hx hb dX1_ofDoubles_40 rfl (lv_at hl 1 rfl) ?_
        refine lv_dload_n hx hb dX1_ofDoubles_41 rfl (lv_at hl 2 rfl) ?_
        obtain ⟨h_4, hF⟩ := grd_some hF
        refine lv_ddiv hx hb dX1_ofDoubles_42 (n64_ok h_4) ?_
        have hq := Option.some.inj hF
        subst hq
        exact rt_d C X dX1_ofDoubles_43

/-! ### X1_ofFloats -/
theorem dX1_ofFloats_0 : decode cX1_ofFloats 0 = .ok (.iload_n 0, 1) := by decide +kernel
theorem dX1_ofFloats_1 : decode cX1_ofFloats 1 = .ok (.tableswitch 39 49 51 #[27, 31, 35], 27) := by decide +kernel
theorem dX1_ofFloats_28 : decode cX1_ofFloats 28 = .ok (.fload_n 1, 1) := by decide +kernel
theorem dX1_ofFloats_29 : decode cX1_ofFloats 29 = .ok (.fload_n 2, 1) := by decide +kernel
theorem dX1_ofFloats_30 : decode cX1_ofFloats 30 = .ok (.fadd, 1) := by decide +kernel
theorem dX1_ofFloats_31 : decode cX1_ofFloats 31 = .ok (.freturn, 1) := by decide +kernel
theorem dX1_ofFloats_32 : decode cX1_ofFloats 32 = .ok (.fload_n 1, 1) := by decide +kernel
theorem dX1_ofFloats_33 : decode cX1_ofFloats 33 = .ok (.fload_n 2, 1) := by decide +kernel
theorem dX1_ofFloats_34 : decode cX1_ofFloats 34 = .ok (.fsub, 1) := by decide +kernel
theorem dX1_ofFloats_35 : decode cX1_ofFloats 35 = .ok (.freturn, 1) := by decide +kernel
theorem dX1_ofFloats_36 : decode cX1_ofFloats 36 = .ok (.fload_n 1, 1) := by decide +kernel
theorem dX1_ofFloats_37 : decode cX1_ofFloats 37 = .ok (.fload_n 2, 1) := by decide +kernel
theorem dX1_ofFloats_38 : decode cX1_ofFloats 38 = .ok (.fmul, 1) := by decide +kernel
theorem dX1_ofFloats_39 : decode cX1_ofFloats 39 = .ok (.freturn, 1) := by decide +kernel
theorem dX1_ofFloats_40 : decode cX1_ofFloats 40 = .ok (.fload_n 1, 1) := by decide +kernel
theorem dX1_ofFloats_41 : decode cX1_ofFloats 41 = .ok (.fload_n 2, 1) := by decide +kernel
theorem dX1_ofFloats_42 : decode cX1_ofFloats 42 = .ok (.fdiv, 1) := by decide +kernel
theorem dX1_ofFloats_43 : decode cX1_ofFloats 43 = .ok (.freturn, 1) := by decide +kernel
abbrev R_X1_ofFloats : Room := ({ frames := 0, cells := 0, slots := 0, locals := 0 } : Room)
def f_X1_ofFloats (x0 : Int32) (x1 : UInt32) (x2 : UInt32) : Option (UInt32) :=
  if x0 = (49 : Int32) then (grd (n32 (FP.fadd x1 x2)) (some (FP.fadd x1 x2))) else (if x0 = (50 : Int32) then (grd (n32 (FP.fsub x1 x2)) (some (FP.fsub x1 x2))) else (if x0 = (51 : Int32) then (grd (n32 (FP.fmul x1 x2)) (some (FP.fmul x1 x2))) else (grd (n32 (FP.fdiv x1 x2)) (some (FP.fdiv x1 x2)))))
set_option maxHeartbeats 4000000 in
set_option maxRecDepth 100000 in
theorem c_X1_ofFloats (l : Launch) (D : Dx) (x0 : Int32) (x1 : UInt32) (x2 : UInt32) (q : UInt32) (hF : f_X1_ofFloats x0 x1 x2 = some q) (sz : Nat) : Met l yX1_ofFloats (ws_ yX1_ofFloats cX1_ofFloats 3 (some .float)) R_X1_ofFloats (PC D ([]) [.int x0, .float x1, .float x2] ([]) sz) (QF D (va_A ([]) sz) ([]) q) 0 0 (va_A ([]) sz) := by
  refine Met.ofW (cc := cX1_ofFloats) (maxL := 3) (ret := (some .float)) (by decide) rfl ?_
  intro p e s m args below meth c s₁ B hml hv
  obtain ⟨rfl, hsz, hP, hK, hD, hN⟩ := hv
  subst hsz
  have C : Cx p s m _ meth c cX1_ofFloats (some .float) 3 RX1 lw_all := Cx_of B hml
  have X := Hx_start hP hK hD hN
  obtain ⟨hx, hb, hr, -, hown, hts, hlk⟩ := id C
  generalize va_A ([]) s.heap.size = A at X ⊢
  have hl := lv_entry ([.int x0, .float x1, .float x2]) (n := 3) (Nat.le_of_ble_eq_true rfl)
  rw [lg_entry_eq]
  generalize (lg_sl ([.int x0, .float x1, .float x2]) ++ List.replicate (3 - (lg_sl ([.int x0, .float x1, .float x2])).length) Slot.unset).toArray = ls at hl ⊢
  have hl : lv_has ls 3 [(0, .int x0), (1, .float x1), (2, .float x2)] := hl
  unfold f_X1_ofFloats at hF
  refine lv_iload_n hx hb dX1_ofFloats_0 rfl (lv_at hl 0 rfl) ?_
  by_cases c49 : x0 = (49 : Int32)
  · replace hF := iT c49 hF
    refine lv_tableIn (tgt := 28) (off := 27) hx hb dX1_ofFloats_1 (by rw [c49]; decide) (by rw [c49]; decide) (by rw [c49]; rfl) (by decide) ?_
    refine lv_fload_n hx hb dX1_ofFloats_28 rfl (lv_at hl 1 rfl) ?_
    refine lv_fload_n hx hb dX1_ofFloats_29 rfl (lv_at hl 2 rfl) ?_
    obtain ⟨h_1, hF⟩ := grd_some hF
    refine lv_fadd hx hb dX1_ofFloats_30 (n32_ok h_1) ?_
    have hq := Option.some.inj hF
    subst hq
    exact rt_f C X dX1_ofFloats_31
  · replace hF := iF c49 hF
    by_cases c50 : x0 = (50 : Int32)
    · replace hF := iT c50 hF
      refine lv_tableIn (tgt := 32) (off := 31) hx hb dX1_ofFloats_1 (by rw [c50]; decide) (by rw [c50]; decide) (by rw [c50]; rfl) (by decide) ?_
      refine lv_fload_n hx hb dX1_ofFloats_32 rfl (lv_at hl 1 rfl) ?_
      refine lv_fload_n hx hb dX1_ofFloats_33 rfl (lv_at hl 2 rfl) ?_
      obtain ⟨h_2, hF⟩ := grd_some hF
      refine lv_fsub hx hb dX1_ofFloats_34 (n32_ok h_2) ?_
      have hq := Option.some.inj hF
      subst hq
      exact rt_f C X dX1_ofFloats_35
    · replace hF := iF c50 hF
      by_cases c51 : x0 = (51 : Int32)
      · replace hF := iT c51 hF
        refine lv_tableIn (tgt := 36) (off := 35) hx hb dX1_ofFloats_1 (by rw [c51]; decide) (by rw [c51]; decide) (by rw [c51]; rfl) (by decide) ?_
        refine lv_fload_n hx hb dX1_ofFloats_36 rfl (lv_at hl 1 rfl) ?_
        refine lv_fload_n hx hb dX1_ofFloats_37 rfl (lv_at hl 2 rfl) ?_
        obtain ⟨h_3, hF⟩ := grd_some hF
        refine lv_fmul hx hb dX1_ofFloats_38 (n32_ok h_3) ?_
        have hq := Option.some.inj hF
        subst hq
        exact rt_f C X dX1_ofFloats_39
      · replace hF := iF c51 hF
        refine lv_tableOut (tgt := 40) hx hb dX1_ofFloats_1 (tbl_out (49) (51) 3 (by decide) ⟨tne c49 (by decide), ⟨tne c50 (by decide), ⟨tne c51 (by decide), trivial⟩⟩⟩) (by decide) ?_
        refine lv_fload_n hx hb dX1_ofFloats_40 rfl (lv_at hl 1 rfl) ?_
        refine lv_fload_n hx hb dX1_ofFloats_41 rfl (lv_at hl 2 rfl) ?_
        obtain ⟨h_4, hF⟩ := grd_some hF
        refine lv_fdiv hx hb dX1_ofFloats_42 (n32_ok h_4) ?_
        have hq := Option.some.inj hF
        subst hq
        exact rt_f C X dX1_ofFloats_43

/-! ### X1_workReals -/
theorem dX1_workReals_0 : decode cX1_workReals 0 = .ok (.iload_n 1, 1) := by decide +kernel
theorem dX1_workReals_1 : decode cX1_workReals 1 = .ok (.bipush 52, 2) := by decide +kernel
theorem dX1_workReals_3 : decode cX1_workReals 3 = .ok (.if_icmp .eq 9, 3) := by decide +kernel
theorem dX1_workReals_6 : decode cX1_workReals 6 = .ok (.iload_n 1, 1) := by decide +kernel
theorem dX1_workReals_7 : decode cX1_workReals 7 = .ok (.bipush 53, 2) := by decide +kernel
theorem dX1_workReals_9 : decode cX1_workReals 9 = .ok (.if_icmp .ne 17, 3) := by decide +kernel
theorem dX1_workReals_12 : decode cX1_workReals 12 = .ok (.dload 5, 2) := by decide +kernel
theorem dX1_workReals_14 : decode cX1_workReals 14 = .ok (.dconst 0, 1) := by decide +kernel
theorem dX1_workReals_15 : decode cX1_workReals 15 = .ok (.dcmp .l, 1) := by decide +kernel
theorem dX1_workReals_16 : decode cX1_workReals 16 = .ok (.ifCond .ne 10, 3) := by decide +kernel
theorem dX1_workReals_19 : decode cX1_workReals 19 = .ok (.aload_n 0, 1) := by decide +kernel
theorem dX1_workReals_20 : decode cX1_workReals 20 = .ok (.iconst 2, 1) := by decide +kernel
theorem dX1_workReals_21 : decode cX1_workReals 21 = .ok (.putfield 23, 3) := by decide +kernel
theorem dX1_workReals_24 : decode cX1_workReals 24 = .ok (.dconst 0, 1) := by decide +kernel
theorem dX1_workReals_25 : decode cX1_workReals 25 = .ok (.dreturn, 1) := by decide +kernel
theorem dX1_workReals_26 : decode cX1_workReals 26 = .ok (.iload_n 1, 1) := by decide +kernel
theorem dX1_workReals_27 : decode cX1_workReals 27 = .ok (.lookupswitch 77 #[(23, 52), (24, 59), (25, 66), (53, 41)], 41) := by decide +kernel
theorem dX1_workReals_68 : decode cX1_workReals 68 = .ok (.aload_n 0, 1) := by decide +kernel
theorem dX1_workReals_69 : decode cX1_workReals 69 = .ok (.getfield 29, 3) := by decide +kernel
theorem dX1_workReals_72 : decode cX1_workReals 72 = .ok (.dload_n 3, 1) := by decide +kernel
theorem dX1_workReals_73 : decode cX1_workReals 73 = .ok (.dload 5, 2) := by decide +kernel
theorem dX1_workReals_75 : decode cX1_workReals 75 = .ok (.invokevirtual 226, 3) := by decide +kernel
theorem dX1_workReals_78 : decode cX1_workReals 78 = .ok (.dreturn, 1) := by decide +kernel
theorem dX1_workReals_79 : decode cX1_workReals 79 = .ok (.dload_n 3, 1) := by decide +kernel
theorem dX1_workReals_80 : decode cX1_workReals 80 = .ok (.dload 5, 2) := by decide +kernel
theorem dX1_workReals_82 : decode cX1_workReals 82 = .ok (.invokestatic 230, 3) := by decide +kernel
theorem dX1_workReals_85 : decode cX1_workReals 85 = .ok (.dreturn, 1) := by decide +kernel
theorem dX1_workReals_86 : decode cX1_workReals 86 = .ok (.dload_n 3, 1) := by decide +kernel
theorem dX1_workReals_87 : decode cX1_workReals 87 = .ok (.dload 5, 2) := by decide +kernel
theorem dX1_workReals_89 : decode cX1_workReals 89 = .ok (.invokestatic 233, 3) := by decide +kernel
theorem dX1_workReals_92 : decode cX1_workReals 92 = .ok (.dreturn, 1) := by decide +kernel
theorem dX1_workReals_93 : decode cX1_workReals 93 = .ok (.aload_n 0, 1) := by decide +kernel
theorem dX1_workReals_94 : decode cX1_workReals 94 = .ok (.getfield 29, 3) := by decide +kernel
theorem dX1_workReals_97 : decode cX1_workReals 97 = .ok (.dload_n 3, 1) := by decide +kernel
theorem dX1_workReals_98 : decode cX1_workReals 98 = .ok (.dload 5, 2) := by decide +kernel
theorem dX1_workReals_100 : decode cX1_workReals 100 = .ok (.invokevirtual 236, 3) := by decide +kernel
theorem dX1_workReals_103 : decode cX1_workReals 103 = .ok (.dreturn, 1) := by decide +kernel
theorem dX1_workReals_104 : decode cX1_workReals 104 = .ok (.iload_n 2, 1) := by decide +kernel
theorem dX1_workReals_105 : decode cX1_workReals 105 = .ok (.bipush 6, 2) := by decide +kernel
theorem dX1_workReals_107 : decode cX1_workReals 107 = .ok (.if_icmp .ne 16, 3) := by decide +kernel
theorem dX1_workReals_110 : decode cX1_workReals 110 = .ok (.iload_n 1, 1) := by decide +kernel
theorem dX1_workReals_111 : decode cX1_workReals 111 = .ok (.dload_n 3, 1) := by decide +kernel
theorem dX1_workReals_112 : decode cX1_workReals 112 = .ok (.d2f, 1) := by decide +kernel
theorem dX1_workReals_113 : decode cX1_workReals 113 = .ok (.dload 5, 2) := by decide +kernel
theorem dX1_workReals_115 : decode cX1_workReals 115 = .ok (.d2f, 1) := by decide +kernel
theorem dX1_workReals_116 : decode cX1_workReals 116 = .ok (.invokestatic 239, 3) := by decide +kernel
theorem dX1_workReals_119 : decode cX1_workReals 119 = .ok (.f2d, 1) := by decide +kernel
theorem dX1_workReals_120 : decode cX1_workReals 120 = .ok (.goto 10, 3) := by decide +kernel
theorem dX1_workReals_123 : decode cX1_workReals 123 = .ok (.iload_n 1, 1) := by decide +kernel
theorem dX1_workReals_124 : decode cX1_workReals 124 = .ok (.dload_n 3, 1) := by decide +kernel
theorem dX1_workReals_125 : decode cX1_workReals 125 = .ok (.dload 5, 2) := by decide +kernel
theorem dX1_workReals_127 : decode cX1_workReals 127 = .ok (.invokestatic 243, 3) := by decide +kernel
theorem dX1_workReals_130 : decode cX1_workReals 130 = .ok (.dstore 7, 2) := by decide +kernel
theorem dX1_workReals_132 : decode cX1_workReals 132 = .ok (.dload 7, 2) := by decide +kernel
theorem dX1_workReals_134 : decode cX1_workReals 134 = .ok (.invokestatic 175, 3) := by decide +kernel
theorem dX1_workReals_137 : decode cX1_workReals 137 = .ok (.ifCond .eq 8, 3) := by decide +kernel
theorem dX1_workReals_140 : decode cX1_workReals 140 = .ok (.aload_n 0, 1) := by decide +kernel
theorem dX1_workReals_141 : decode cX1_workReals 141 = .ok (.iconst 3, 1) := by decide +kernel
theorem dX1_workReals_142 : decode cX1_workReals 142 = .ok (.putfield 23, 3) := by decide +kernel
theorem dX1_workReals_145 : decode cX1_workReals 145 = .ok (.dload 7, 2) := by decide +kernel
theorem dX1_workReals_147 : decode cX1_workReals 147 = .ok (.dreturn, 1) := by decide +kernel
abbrev R_X1_workReals : Room := ({ frames := 3, cells := 0, slots := 0, locals := 131 } : Room)
def b_X1_workReals_130 (n : Nat) (gT : Gs) (gT_0 : Gs) (s0 : UInt64) : Option (UInt64 × Gs) :=
  bnd (f_X6_isBeyond s0) (fun q_11 => if q_11 = 0 then (some (s0, gT)) else (some (s0, (sI gT 5 (3 : Int32)))))
def b_X1_workReals_26 (n : Nat) (gT : Gs) (gT_0 : Gs) (v1 : Int32) (v2 : Int32) (v3 : UInt64) (v5 : UInt64) : Option (UInt64 × Gs) :=
  if v1 = (23 : Int32) then (bnd (f_X6_leastOf v3 v5) (fun q_1 => some (q_1, gT))) else (if v1 = (24 : Int32) then (bnd (f_X6_mostOf v3 v5) (fun q_3 => some (q_3, gT))) else (if v1 = (25 : Int32) then (bnd (f_X6_gcdOf n gT_0 v3 v5) (fun q_5 => some (q_5, gT))) else (if v1 = (53 : Int32) then (bnd (f_X6_remainder n gT_0 v3 v5) (fun q_7 => some (q_7, gT))) else (if v2 = (6 : Int32) then (grd (n32 (FP.d2f v3)) (grd (n32 (FP.d2f v5)) (bnd (f_X1_ofFloats v1 (FP.d2f v3) (FP.d2f v5)) (fun q_15 => grd (n64 (FP.f2d q_15)) (b_X1_workReals_130 n gT gT_0 (FP.f2d q_15)))))) else (bnd (f_X1_ofDoubles v1 v3 v5) (fun q_9 => b_X1_workReals_130 n gT gT_0 q_9))))))
def b_X1_workReals_12 (n : Nat) (gT : Gs) (gT_0 : Gs) (v1 : Int32) (v2 : Int32) (v3 : UInt64) (v5 : UInt64) : Option (UInt64 × Gs) :=
  if (Op.cmpValue (FP.dcmp v5 FP.dconst0) .l) = 0 then (some (FP.dconst0, (sI gT 5 (2 : Int32)))) else (b_X1_workReals_26 n gT gT_0 v1 v2 v3 v5)
def f_X1_workReals (n : Nat) (gT : Gs) (gT_0 : Gs) (x0 : Int32) (x1 : Int32) (x2 : UInt64) (x3 : UInt64) : Option (UInt64 × Gs) :=
  if x0 = (52 : Int32) then (b_X1_workReals_12 n gT gT_0 x0 x1 x2 x3) else (if x0 = (53 : Int32) then (b_X1_workReals_12 n gT gT_0 x0 x1 x2 x3) else (b_X1_workReals_26 n gT gT_0 x0 x1 x2 x3))
def S_X1_workReals_130 (l : Launch) (D : Dx) (hT : Nat) (aT : Nat → Nat) (yT : Nat → ClassId) (aT_0 : Nat → Nat) (yT_0 : Nat → ClassId) (fn : Gs → Gs → UInt64 → Option (UInt64 × Gs)) : Prop :=
  ∀ {p : Program} {e : Env} {s : State} {m : MethodId} {args : Array Value} {below : List Frame} {meth : Method} {c : Code} {H : Heap} {locs : List Loc} {A : Nat → Prop} {ls : Array Slot} {gT : Gs} {gT_0 : Gs} {s0 : UInt64} {q : UInt64 × Gs}, Cx p s m args meth c cX1_workReals (some .double) 9 RX1 lw_all → Hx D (tX1 yT ++ (tX6 yT_0)) A s H locs (wX1 hT aT yT gT ++ (wX6 (aT 0) aT_0 yT_0 gT_0)) → lv_has ls 9 [(0, .ref hT)] → fn gT gT_0 s0 = some q → W p l e R_X1_workReals s m args below meth c H locs 0 0 (MQ below (QD D A (wX1 hT aT yT q.2 ++ (wX6 (aT 0) aT_0 yT_0 gT_0)) q.1) args s 0 0 A) (F0 m 130 ls [.double s0])
def S_X1_workReals_26 (l : Launch) (D : Dx) (hT : Nat) (aT : Nat → Nat) (yT : Nat → ClassId) (aT_0 : Nat → Nat) (yT_0 : Nat → ClassId) (fn : Gs → Gs → Int32 → Int32 → UInt64 → UInt64 → Option (UInt64 × Gs)) : Prop :=
  ∀ {p : Program} {e : Env} {s : State} {m : MethodId} {args : Array Value} {below : List Frame} {meth : Method} {c : Code} {H : Heap} {locs : List Loc} {A : Nat → Prop} {ls : Array Slot} {gT : Gs} {gT_0 : Gs} {v1 : Int32} {v2 : Int32} {v3 : UInt64} {v5 : UInt64} {q : UInt64 × Gs}, Cx p s m args meth c cX1_workReals (some .double) 9 RX1 lw_all → Hx D (tX1 yT ++ (tX6 yT_0)) A s H locs (wX1 hT aT yT gT ++ (wX6 (aT 0) aT_0 yT_0 gT_0)) → lv_has ls 9 [(0, .ref hT), (1, .int v1), (2, .int v2), (3, .double v3), (5, .double v5)] → fn gT gT_0 v1 v2 v3 v5 = some q → W p l e R_X1_workReals s m args below meth c H locs 0 0 (MQ below (QD D A (wX1 hT aT yT q.2 ++ (wX6 (aT 0) aT_0 yT_0 gT_0)) q.1) args s 0 0 A) (F0 m 26 ls [])
def S_X1_workReals_12 (l : Launch) (D : Dx) (hT : Nat) (aT : Nat → Nat) (yT : Nat → ClassId) (aT_0 : Nat → Nat) (yT_0 : Nat → ClassId) (fn : Gs → Gs → Int32 → Int32 → UInt64 → UInt64 → Option (UInt64 × Gs)) : Prop :=
  ∀ {p : Program} {e : Env} {s : State} {m : MethodId} {args : Array Value} {below : List Frame} {meth : Method} {c : Code} {H : Heap} {locs : List Loc} {A : Nat → Prop} {ls : Array Slot} {gT : Gs} {gT_0 : Gs} {v1 : Int32} {v2 : Int32} {v3 : UInt64} {v5 : UInt64} {q : UInt64 × Gs}, Cx p s m args meth c cX1_workReals (some .double) 9 RX1 lw_all → Hx D (tX1 yT ++ (tX6 yT_0)) A s H locs (wX1 hT aT yT gT ++ (wX6 (aT 0) aT_0 yT_0 gT_0)) → lv_has ls 9 [(0, .ref hT), (1, .int v1), (2, .int v2), (3, .double v3), (5, .double v5)] → fn gT gT_0 v1 v2 v3 v5 = some q → W p l e R_X1_workReals s m args below meth c H locs 0 0 (MQ below (QD D A (wX1 hT aT yT q.2 ++ (wX6 (aT 0) aT_0 yT_0 gT_0)) q.1) args s 0 0 A) (F0 m 12 ls [])
set_option maxHeartbeats 4000000 in
set_option maxRecDepth 100000 in
theorem k_X1_workReals_130 (l : Launch) (D : Dx) (hT : Nat) (aT : Nat → Nat) (yT : Nat → ClassId) (aT_0 : Nat → Nat) (yT_0 : Nat → ClassId) (n : Nat) : S_X1_workReals_130 l D hT aT yT aT_0 yT_0 (b_X1_workReals_130 n) := by
  intro p e s m args below meth c H locs A ls gT gT_0 s0 q C X hl hF
  obtain ⟨hx, hb, hr, hml, hown, hts, hlk⟩ := id C
  unfold b_X1_workReals_130 at hF
  refine lv_dstore (lv' := [(7, .double s0), (0, .ref hT)]) hx hb dX1_workReals_130 hl (by decide) rfl (fun ls hl => ?_)
  refine lv_dload hx hb dX1_workReals_132 (lv_at hl 0 rfl) ?_
  obtain ⟨q_11, hc_12, hF⟩ := bnd_some hF
  refine cS_i (As := [.double s0]) (rest := []) C X (c_X6_isBeyond l D  s0 q_11 hc_12 _) (va_cwS 1 hts (good_S q5_54 q3_216 q1_2 q3_217) rfl rfl rfl (by decide +kernel) ⟨Nat.le_of_ble_eq_true rfl, Nat.le_of_ble_eq_true rfl⟩) (eK X) eP (eD (A := A)) (eF X) hl.1 rfl rfl (Nat.le_of_ble_eq_true rfl) dX1_workReals_134 ⟨Nat.le_of_ble_eq_true rfl, Nat.le_of_ble_eq_true rfl⟩ (fun t H1 locs1 ht hB hk hS => ?_)
  have X := Hx_after_none X hk hS
  clear hk hS ht hB
  generalize H1 = H at X ⊢
  generalize locs1 = locs at X ⊢
  refine lv_if_eq (tgt := 145) hx hb dX1_workReals_137 (by decide) (fun c => ?_) (fun c => ?_)
  · replace hF := iT c hF
    refine lv_dload hx hb dX1_workReals_145 (lv_at hl 0 rfl) ?_
    have hq := Option.some.inj hF
    subst hq
    exact rt_d C X dX1_workReals_147
  · replace hF := iF c hF
    refine lv_aload_n hx hb dX1_workReals_140 rfl (lv_at hl 1 rfl) ?_
    refine lv_iconst (v := (3 : Int32)) hx hb dX1_workReals_141 (by decide) ?_
    refine va_put (D := D.1) (ci := 1) (v := .int (3 : Int32)) (ty := .int) (C := RX1) (T := TX1) (N := 7) hx hb hts wi_X1 tyX1 tyX1_ok nmX1 hown X.1 X.2.1 X.2.2.1 X.2.2.2.1 0 rfl rfl 5 (by decide) (hts _ q1_144) (fun _ h9 => h9) rfl (by decide +kernel) rfl rfl (by rw [List.length_map, List.length_range]; decide) dX1_workReals_142 (fun H locs hP hD hS => ?_)
    have X : Hx D (tX1 yT ++ (tX6 yT_0)) A s H locs (wX1 hT aT yT (sI gT 5 (3 : Int32)) ++ (wX6 (aT 0) aT_0 yT_0 gT_0)) := Hx_set X (set_l (by rw [wG_len (m := 3) rfl]; decide) (wG_sI (k := 5) rfl)) hP hD hS
    refine lv_dload hx hb dX1_workReals_145 (lv_at hl 0 rfl) ?_
    have hq := Option.some.inj hF
    subst hq
    exact rt_d C X dX1_workReals_147
set_option maxHeartbeats 4000000 in
set_option maxRecDepth 100000 in
theorem k_X1_workReals_26 (l : Launch) (D : Dx) (hT : Nat) (aT : Nat → Nat) (yT : Nat → ClassId) (aT_0 : Nat → Nat) (yT_0 : Nat → ClassId) (n : Nat) : S_X1_workReals_26 l D hT aT yT aT_0 yT_0 (b_X1_workReals_26 n) := by
  intro p e s m args below meth c H locs A ls gT gT_0 v1 v2 v3 v5 q C X hl hF
  obtain ⟨hx, hb, hr, hml, hown, hts, hlk⟩ := id C
  unfold b_X1_workReals_26 at hF
  refine lv_iload_n hx hb dX1_workReals_26 rfl (lv_at hl 1 rfl) ?_
  by_cases c23 : v1 = (23 : Int32)
  · replace hF := iT c23 hF
    refine lv_lookup (tgt := 79) (off := 52) hx hb dX1_workReals_27 (by decide) (by rw [c23]; rfl) (by decide) ?_
    refine lv_dload_n hx hb dX1_workReals_79 rfl (lv_at hl 3 rfl) ?_
    refine lv_dload hx hb dX1_workReals_80 (lv_at hl 4 rfl) ?_
    obtain ⟨q_1, hc_2, hF⟩ := bnd_some hF
    refine cS_d (As := [.double v3, .double v5]) (rest := []) C X (c_X6_leastOf l D  v3 v5 q_1 hc_2 _) (va_cwS 2 hts (good_S q5_113 q5_114 q1_2 q5_115) rfl rfl rfl (by decide +kernel) ⟨Nat.le_of_ble_eq_true rfl, Nat.le_of_ble_eq_true rfl⟩) (eK X) eP (eD (A := A)) (eF X) hl.1 rfl rfl (Nat.le_of_ble_eq_true rfl) dX1_workReals_82 ⟨Nat.le_of_ble_eq_true rfl, Nat.le_of_ble_eq_true rfl⟩ (fun t H1 locs1 ht hB hk hS => ?_)
    have X := Hx_after_none X hk hS
    clear hk hS ht hB
    generalize H1 = H at X ⊢
    generalize locs1 = locs at X ⊢
    have hq := Option.some.inj hF
    subst hq
    exact rt_d C X dX1_workReals_85
  · replace hF := iF c23 hF
    by_cases c24 : v1 = (24 : Int32)
    · replace hF := iT c24 hF
      refine lv_lookup (tgt := 86) (off := 59) hx hb dX1_workReals_27 (by decide) (by rw [c24]; rfl) (by decide) ?_
      refine lv_dload_n hx hb dX1_workReals_86 rfl (lv_at hl 3 rfl) ?_
      refine lv_dload hx hb dX1_workReals_87 (lv_at hl 4 rfl) ?_
      obtain ⟨q_3, hc_4, hF⟩ := bnd_some hF
      refine cS_d (As := [.double v3, .double v5]) (rest := []) C X (c_X6_mostOf l D  v3 v5 q_3 hc_4 _) (va_cwS 2 hts (good_S q5_116 q5_117 q1_2 q5_118) rfl rfl rfl (by decide +kernel) ⟨Nat.le_of_ble_eq_true rfl, Nat.le_of_ble_eq_true rfl⟩) (eK X) eP (eD (A := A)) (eF X) hl.1 rfl rfl (Nat.le_of_ble_eq_true rfl) dX1_workReals_89 ⟨Nat.le_of_ble_eq_true rfl, Nat.le_of_ble_eq_true rfl⟩ (fun t H1 locs1 ht hB hk hS => ?_)
      have X := Hx_after_none X hk hS
      clear hk hS ht hB
      generalize H1 = H at X ⊢
      generalize locs1 = locs at X ⊢
      have hq := Option.some.inj hF
      subst hq
      exact rt_d C X dX1_workReals_92
    · replace hF := iF c24 hF
      by_cases c25 : v1 = (25 : Int32)
      · replace hF := iT c25 hF
        refine lv_lookup (tgt := 93) (off := 66) hx hb dX1_workReals_27 (by decide) (by rw [c25]; rfl) (by decide) ?_
        refine lv_aload_n hx hb dX1_workReals_93 rfl (lv_at hl 0 rfl) ?_
        refine va_get (D := D.1) (ci := 1) (v := .ref (aT 0)) (C := RX1) (T := TX1) (N := 7) hx hb hts wi_X1 hown X.1 X.2.1 0 rfl rfl 0 (by decide) (hts _ q1_137) (fun _ h9 => h9) (fl_get (by decide)) dX1_workReals_94 ?_
        refine lv_dload_n hx hb dX1_workReals_97 rfl (lv_at hl 3 rfl) ?_
        refine lv_dload hx hb dX1_workReals_98 (lv_at hl 4 rfl) ?_
        obtain ⟨q_5, hc_6, hF⟩ := bnd_some hF
        refine cV_d (As := [.double v3, .double v5]) (rest := []) C X (c_X6_gcdOf l D (aT 0) aT_0 yT_0 n gT_0 v3 v5 q_5 hc_6 _) (cwV 2 hts (good_V q5_119 q5_120 q5_121 q1_2 q5_122) rfl rfl rfl (by decide +kernel) ⟨Nat.le_of_ble_eq_true rfl, Nat.le_of_ble_eq_true rfl⟩) (va_recv X.1 X.2.1 (ci := 6) (q0 := 3) rfl rfl) (X.1.sub (tys' := tX6 yT_0) [2] rfl) (X.2.1.sub (ws' := wX6 (aT 0) aT_0 yT_0 gT_0) [3, 4] rfl) (X.2.2.1.sub (ws' := wX6 (aT 0) aT_0 yT_0 gT_0) [3, 4] (by decide) rfl) (free_of (wC := wX6 (aT 0) aT_0 yT_0 gT_0) (isC := [3, 4]) X rfl) hl.1 rfl rfl (Nat.le_of_ble_eq_true rfl) dX1_workReals_100 ⟨Nat.le_of_ble_eq_true rfl, Nat.le_of_ble_eq_true rfl⟩ (fun t H1 locs1 ht hB hk hS => ?_)
        have X : Hx D (tX1 yT ++ (tX6 yT_0)) A s H1 locs1 (wX1 hT aT yT gT ++ (wX6 (aT 0) aT_0 yT_0 gT_0)) := Hx_after (isC := [3, 4]) (isR := [0, 1, 2]) (pm := [0, 1, 2, 3, 4]) (wr := wX1 hT aT yT gT) X ⟨rfl, rfl, by decide, by decide, rfl, by decide⟩ ht hB hk hS
        clear hk hS ht hB
        generalize H1 = H at X ⊢
        generalize locs1 = locs at X ⊢
        have hq := Option.some.inj hF
        subst hq
        exact rt_d C X dX1_workReals_103
      · replace hF := iF c25 hF
        by_cases c53 : v1 = (53 : Int32)
        · replace hF := iT c53 hF
          refine lv_lookup (tgt := 68) (off := 41) hx hb dX1_workReals_27 (by decide) (by rw [c53]; rfl) (by decide) ?_
          refine lv_aload_n hx hb dX1_workReals_68 rfl (lv_at hl 0 rfl) ?_
          refine va_get (D := D.1) (ci := 1) (v := .ref (aT 0)) (C := RX1) (T := TX1) (N := 7) hx hb hts wi_X1 hown X.1 X.2.1 0 rfl rfl 0 (by decide) (hts _ q1_137) (fun _ h9 => h9) (fl_get (by decide)) dX1_workReals_69 ?_
          refine lv_dload_n hx hb dX1_workReals_72 rfl (lv_at hl 3 rfl) ?_
          refine lv_dload hx hb dX1_workReals_73 (lv_at hl 4 rfl) ?_
          obtain ⟨q_7, hc_8, hF⟩ := bnd_some hF
          refine cV_d (As := [.double v3, .double v5]) (rest := []) C X (c_X6_remainder l D (aT 0) aT_0 yT_0 n gT_0 v3 v5 q_7 hc_8 _) (cwV 2 hts (good_V q5_102 q5_103 q5_104 q1_2 q5_105) rfl rfl rfl (by decide +kernel) ⟨Nat.le_of_ble_eq_true rfl, Nat.le_of_ble_eq_true rfl⟩) (va_recv X.1 X.2.1 (ci := 6) (q0 := 3) rfl rfl) (X.1.sub (tys' := tX6 yT_0) [2] rfl) (X.2.1.sub (ws' := wX6 (aT 0) aT_0 yT_0 gT_0) [3, 4] rfl) (X.2.2.1.sub (ws' := wX6 (aT 0) aT_0 yT_0 gT_0) [3, 4] (by decide) rfl) (free_of (wC := wX6 (aT 0) aT_0 yT_0 gT_0) (isC := [3, 4]) X rfl) hl.1 rfl rfl (Nat.le_of_ble_eq_true rfl) dX1_workReals_75 ⟨Nat.le_of_ble_eq_true rfl, Nat.le_of_ble_eq_true rfl⟩ (fun t H1 locs1 ht hB hk hS => ?_)
          have X : Hx D (tX1 yT ++ (tX6 yT_0)) A s H1 locs1 (wX1 hT aT yT gT ++ (wX6 (aT 0) aT_0 yT_0 gT_0)) := Hx_after (isC := [3, 4]) (isR := [0, 1, 2]) (pm := [0, 1, 2, 3, 4]) (wr := wX1 hT aT yT gT) X ⟨rfl, rfl, by decide, by decide, rfl, by decide⟩ ht hB hk hS
          clear hk hS ht hB
          generalize H1 = H at X ⊢
          generalize locs1 = locs at X ⊢
          have hq := Option.some.inj hF
          subst hq
          exact rt_d C X dX1_workReals_78
        · replace hF := iF c53 hF
          refine lv_lookup (tgt := 104) (off := 77) hx hb dX1_workReals_27 (by decide) (lkc (tneS c23 (by decide)) (lkc (tneS c24 (by decide)) (lkc (tneS c25 (by decide)) (lkc (tneS c53 (by decide)) lkn)))) (by decide) ?_
          refine lv_iload_n hx hb dX1_workReals_104 rfl (lv_at hl 2 rfl) ?_
          refine lv_bipush (v := (6 : Int32)) hx hb dX1_workReals_105 (by decide) ?_
          refine lv_icmp_ne (tgt := 123) hx hb dX1_workReals_107 (by decide) (fun c => ?_) (fun c => ?_)
          · replace hF := iF c hF
            refine lv_iload_n hx hb dX1_workReals_123 rfl (lv_at hl 1 rfl) ?_
            refine lv_dload_n hx hb dX1_workReals_124 rfl (lv_at hl 3 rfl) ?_
            refine lv_dload hx hb dX1_workReals_125 (lv_at hl 4 rfl) ?_
            obtain ⟨q_9, hc_10, hF⟩ := bnd_some hF
            refine cS_d (As := [.int v1, .double v3, .double v5]) (rest := []) C X (c_X1_ofDoubles l D  v1 v3 v5 q_9 hc_10 _) (va_cwS 3 hts (good_S q5_127 q5_128 q1_4 q5_129) rfl rfl rfl (by decide +kernel) ⟨Nat.le_of_ble_eq_true rfl, Nat.le_of_ble_eq_true rfl⟩) (eK X) eP (eD (A := A)) (eF X) hl.1 rfl rfl (Nat.le_of_ble_eq_true rfl) dX1_workReals_127 ⟨Nat.le_of_ble_eq_true rfl, Nat.le_of_ble_eq_true rfl⟩ (fun t H1 locs1 ht hB hk hS => ?_)
            have X := Hx_after_none X hk hS
            clear hk hS ht hB
            generalize H1 = H at X ⊢
            generalize locs1 = locs at X ⊢
            exact (k_X1_workReals_130 l D hT aT yT aT_0 yT_0 n) C X (lv_sub hl [0] rfl) hF
          · replace hF := iT c hF
            refine lv_iload_n hx hb dX1_workReals_110 rfl (lv_at hl 1 rfl) ?_
            refine lv_dload_n hx hb dX1_workReals_111 rfl (lv_at hl 3 rfl) ?_
            obtain ⟨h_13, hF⟩ := grd_some hF
            refine lv_d2f hx hb dX1_workReals_112 (n32_ok h_13) ?_
            refine lv_dload hx hb dX1_workReals_113 (lv_at hl 4 rfl) ?_
            obtain ⟨h_14, hF⟩ := grd_some hF
            refine lv_d2f hx hb dX1_workReals_115 (n32_ok h_14) ?_
            obtain ⟨q_15, hc_16, hF⟩ := bnd_some hF
            refine cS_f (As := [.int v1, .float (FP.d2f v3), .float (FP.d2f v5)]) (rest := []) C X (c_X1_ofFloats l D  v1 (FP.d2f v3) (FP.d2f v5) q_15 hc_16 _) (va_cwS 3 hts (good_S q5_124 q5_125 q1_4 q5_126) rfl rfl rfl (by decide +kernel) ⟨Nat.le_of_ble_eq_true rfl, Nat.le_of_ble_eq_true rfl⟩) (eK X) eP (eD (A := A)) (eF X) hl.1 rfl rfl (Nat.le_of_ble_eq_true rfl) dX1_workReals_116 ⟨Nat.le_of_ble_eq_true rfl, Nat.le_of_ble_eq_true rfl⟩ (fun t H1 locs1 ht hB hk hS => ?_)
            have X := Hx_after_none X hk hS
            clear hk hS ht hB
            generalize H1 = H at X ⊢
            generalize locs1 = locs at X ⊢
            obtain ⟨h_17, hF⟩ := grd_some hF
            refine lv_f2d hx hb dX1_workReals_119 (n64_ok h_17) ?_
            refine lv_goto (tgt := 130) hx hb dX1_workReals_120 (by decide) ?_
            exact (k_X1_workReals_130 l D hT aT yT aT_0 yT_0 n) C X (lv_sub hl [0] rfl) hF
set_option maxHeartbeats 4000000 in
set_option maxRecDepth 100000 in
theorem k_X1_workReals_12 (l : Launch) (D : Dx) (hT : Nat) (aT : Nat → Nat) (yT : Nat → ClassId) (aT_0 : Nat → Nat) (yT_0 : Nat → ClassId) (n : Nat) : S_X1_workReals_12 l D hT aT yT aT_0 yT_0 (b_X1_workReals_12 n) := by
  intro p e s m args below meth c H locs A ls gT gT_0 v1 v2 v3 v5 q C X hl hF
  obtain ⟨hx, hb, hr, hml, hown, hts, hlk⟩ := id C
  unfold b_X1_workReals_12 at hF
  refine lv_dload hx hb dX1_workReals_12 (lv_at hl 4 rfl) ?_
  refine lv_dconst0 hx hb dX1_workReals_14 ?_
  refine lv_dcmp hx hb dX1_workReals_15 ?_
  refine lv_if_ne (tgt := 26) hx hb dX1_workReals_16 (by decide) (fun c => ?_) (fun c => ?_)
  · replace hF := iF c hF
    exact (k_X1_workReals_26 l D hT aT yT aT_0 yT_0 n) C X (lv_sub hl [0, 1, 2, 3, 4] rfl) hF
  · replace hF := iT c hF
    refine lv_aload_n hx hb dX1_workReals_19 rfl (lv_at hl 0 rfl) ?_
    refine lv_iconst (v := (2 : Int32)) hx hb dX1_workReals_20 (by decide) ?_
    refine va_put (D := D.1) (ci := 1) (v := .int (2 : Int32)) (ty := .int) (C := RX1) (T := TX1) (N := 7) hx hb hts wi_X1 tyX1 tyX1_ok nmX1 hown X.1 X.2.1 X.2.2.1 X.2.2.2.1 0 rfl rfl 5 (by decide) (hts _ q1_144) (fun _ h9 => h9) rfl (by decide +kernel) rfl rfl (by rw [List.length_map, List.length_range]; decide) dX1_workReals_21 (fun H locs hP hD hS => ?_)
    have X : Hx D (tX1 yT ++ (tX6 yT_0)) A s H locs (wX1 hT aT yT (sI gT 5 (2 : Int32)) ++ (wX6 (aT 0) aT_0 yT_0 gT_0)) := Hx_set X (set_l (by rw [wG_len (m := 3) rfl]; decide) (wG_sI (k := 5) rfl)) hP hD hS
    refine lv_dconst0 hx hb dX1_workReals_24 ?_
    have hq := Option.some.inj hF
    subst hq
    exact rt_d C X dX1_workReals_25
set_option maxHeartbeats 4000000 in
set_option maxRecDepth 100000 in
theorem c_X1_workReals (l : Launch) (D : Dx) (hT : Nat) (aT : Nat → Nat) (yT : Nat → ClassId) (aT_0 : Nat → Nat) (yT_0 : Nat → ClassId) (n : Nat) (gT : Gs) (gT_0 : Gs) (x0 : Int32) (x1 : Int32) (x2 : UInt64) (x3 : UInt64) (q : UInt64 × Gs) (hF : f_X1_workReals n gT gT_0 x0 x1 x2 x3 = some q) (sz : Nat) : Met l yX1_workReals (ws_ yX1_workReals cX1_workReals 9 (some .double)) R_X1_workReals (PC D (tX1 yT ++ (tX6 yT_0)) [.ref hT, .int x0, .int x1, .double x2, .double x3] (wX1 hT aT yT gT ++ (wX6 (aT 0) aT_0 yT_0 gT_0)) sz) (QD D (va_A (wX1 hT aT yT gT ++ (wX6 (aT 0) aT_0 yT_0 gT_0)) sz) (wX1 hT aT yT q.2 ++ (wX6 (aT 0) aT_0 yT_0 gT_0)) q.1) 0 0 (va_A (wX1 hT aT yT gT ++ (wX6 (aT 0) aT_0 yT_0 gT_0)) sz) := by
  refine Met.ofW (cc := cX1_workReals) (maxL := 9) (ret := (some .double)) (by decide) rfl ?_
  intro p e s m args below meth c s₁ B hml hv
  obtain ⟨rfl, hsz, hP, hK, hD, hN⟩ := hv
  subst hsz
  have C : Cx p s m _ meth c cX1_workReals (some .double) 9 RX1 lw_all := Cx_of B hml
  have X := Hx_start hP hK hD hN
  obtain ⟨hx, hb, hr, -, hown, hts, hlk⟩ := id C
  generalize va_A (wX1 hT aT yT gT ++ (wX6 (aT 0) aT_0 yT_0 gT_0)) s.heap.size = A at X ⊢
  have hl := lv_entry ([.ref hT, .int x0, .int x1, .double x2, .double x3]) (n := 9) (Nat.le_of_ble_eq_true rfl)
  rw [lg_entry_eq]
  generalize (lg_sl ([.ref hT, .int x0, .int x1, .double x2, .double x3]) ++ List.replicate (9 - (lg_sl ([.ref hT, .int x0, .int x1, .double x2, .double x3])).length) Slot.unset).toArray = ls at hl ⊢
  have hl : lv_has ls 9 [(0, .ref hT), (1, .int x0), (2, .int x1), (3, .double x2), (5, .double x3)] := hl
  unfold f_X1_workReals at hF
  refine lv_iload_n hx hb dX1_workReals_0 rfl (lv_at hl 1 rfl) ?_
  refine lv_bipush (v := (52 : Int32)) hx hb dX1_workReals_1 (by decide) ?_
  refine lv_icmp_eq (tgt := 12) hx hb dX1_workReals_3 (by decide) (fun c => ?_) (fun c => ?_)
  · replace hF := iT c hF
    exact (k_X1_workReals_12 l D hT aT yT aT_0 yT_0 n) C X (lv_sub hl [0, 1, 2, 3, 4] rfl) hF
  · replace hF := iF c hF
    refine lv_iload_n hx hb dX1_workReals_6 rfl (lv_at hl 1 rfl) ?_
    refine lv_bipush (v := (53 : Int32)) hx hb dX1_workReals_7 (by decide) ?_
    refine lv_icmp_ne (tgt := 26) hx hb dX1_workReals_9 (by decide) (fun c => ?_) (fun c => ?_)
    · replace hF := iF c hF
      exact (k_X1_workReals_26 l D hT aT yT aT_0 yT_0 n) C X (lv_sub hl [0, 1, 2, 3, 4] rfl) hF
    · replace hF := iT c hF
      exact (k_X1_workReals_12 l D hT aT yT aT_0 yT_0 n) C X (lv_sub hl [0, 1, 2, 3, 4] rfl) hF

/-! ### X1_workTwo -/
theorem dX1_workTwo_0 : decode cX1_workTwo 0 = .ok (.aload_n 0, 1) := by decide +kernel
theorem dX1_workTwo_1 : decode cX1_workTwo 1 = .ok (.getfield 19, 3) := by decide +kernel
theorem dX1_workTwo_4 : decode cX1_workTwo 4 = .ok (.iconst 2, 1) := by decide +kernel
theorem dX1_workTwo_5 : decode cX1_workTwo 5 = .ok (.isub, 1) := by decide +kernel
theorem dX1_workTwo_6 : decode cX1_workTwo 6 = .ok (.istore 5, 2) := by decide +kernel
theorem dX1_workTwo_8 : decode cX1_workTwo 8 = .ok (.iload 5, 2) := by decide +kernel
theorem dX1_workTwo_10 : decode cX1_workTwo 10 = .ok (.ifCond .ge 4, 3) := by decide +kernel
theorem dX1_workTwo_13 : decode cX1_workTwo 13 = .ok (.return_, 1) := by decide +kernel
theorem dX1_workTwo_14 : decode cX1_workTwo 14 = .ok (.aload_n 0, 1) := by decide +kernel
theorem dX1_workTwo_15 : decode cX1_workTwo 15 = .ok (.getfield 19, 3) := by decide +kernel
theorem dX1_workTwo_18 : decode cX1_workTwo 18 = .ok (.iconst 1, 1) := by decide +kernel
theorem dX1_workTwo_19 : decode cX1_workTwo 19 = .ok (.isub, 1) := by decide +kernel
theorem dX1_workTwo_20 : decode cX1_workTwo 20 = .ok (.istore 6, 2) := by decide +kernel
theorem dX1_workTwo_22 : decode cX1_workTwo 22 = .ok (.aload_n 0, 1) := by decide +kernel
theorem dX1_workTwo_23 : decode cX1_workTwo 23 = .ok (.iload 5, 2) := by decide +kernel
theorem dX1_workTwo_25 : decode cX1_workTwo 25 = .ok (.iload_n 2, 1) := by decide +kernel
theorem dX1_workTwo_26 : decode cX1_workTwo 26 = .ok (.iload 4, 2) := by decide +kernel
theorem dX1_workTwo_28 : decode cX1_workTwo 28 = .ok (.invokevirtual 99, 3) := by decide +kernel
theorem dX1_workTwo_31 : decode cX1_workTwo 31 = .ok (.aload_n 0, 1) := by decide +kernel
theorem dX1_workTwo_32 : decode cX1_workTwo 32 = .ok (.iload 6, 2) := by decide +kernel
theorem dX1_workTwo_34 : decode cX1_workTwo 34 = .ok (.iload_n 3, 1) := by decide +kernel
theorem dX1_workTwo_35 : decode cX1_workTwo 35 = .ok (.iload 4, 2) := by decide +kernel
theorem dX1_workTwo_37 : decode cX1_workTwo 37 = .ok (.invokevirtual 99, 3) := by decide +kernel
theorem dX1_workTwo_40 : decode cX1_workTwo 40 = .ok (.aload_n 0, 1) := by decide +kernel
theorem dX1_workTwo_41 : decode cX1_workTwo 41 = .ok (.dup, 1) := by decide +kernel
theorem dX1_workTwo_42 : decode cX1_workTwo 42 = .ok (.getfield 19, 3) := by decide +kernel
theorem dX1_workTwo_45 : decode cX1_workTwo 45 = .ok (.iconst 1, 1) := by decide +kernel
theorem dX1_workTwo_46 : decode cX1_workTwo 46 = .ok (.isub, 1) := by decide +kernel
theorem dX1_workTwo_47 : decode cX1_workTwo 47 = .ok (.putfield 19, 3) := by decide +kernel
theorem dX1_workTwo_50 : decode cX1_workTwo 50 = .ok (.iload 4, 2) := by decide +kernel
theorem dX1_workTwo_52 : decode cX1_workTwo 52 = .ok (.bipush 6, 2) := by decide +kernel
theorem dX1_workTwo_54 : decode cX1_workTwo 54 = .ok (.if_icmp .lt 7, 3) := by decide +kernel
theorem dX1_workTwo_57 : decode cX1_workTwo 57 = .ok (.iconst 1, 1) := by decide +kernel
theorem dX1_workTwo_58 : decode cX1_workTwo 58 = .ok (.goto 4, 3) := by decide +kernel
theorem dX1_workTwo_61 : decode cX1_workTwo 61 = .ok (.iconst 0, 1) := by decide +kernel
theorem dX1_workTwo_62 : decode cX1_workTwo 62 = .ok (.istore 7, 2) := by decide +kernel
theorem dX1_workTwo_64 : decode cX1_workTwo 64 = .ok (.iload_n 1, 1) := by decide +kernel
theorem dX1_workTwo_65 : decode cX1_workTwo 65 = .ok (.bipush 55, 2) := by decide +kernel
theorem dX1_workTwo_67 : decode cX1_workTwo 67 = .ok (.if_icmp .lt 77, 3) := by decide +kernel
theorem dX1_workTwo_70 : decode cX1_workTwo 70 = .ok (.iload_n 1, 1) := by decide +kernel
theorem dX1_workTwo_71 : decode cX1_workTwo 71 = .ok (.bipush 60, 2) := by decide +kernel
theorem dX1_workTwo_73 : decode cX1_workTwo 73 = .ok (.if_icmp .gt 71, 3) := by decide +kernel
theorem dX1_workTwo_76 : decode cX1_workTwo 76 = .ok (.iload 7, 2) := by decide +kernel
theorem dX1_workTwo_78 : decode cX1_workTwo 78 = .ok (.ifCond .eq 23, 3) := by decide +kernel
theorem dX1_workTwo_81 : decode cX1_workTwo 81 = .ok (.aload_n 0, 1) := by decide +kernel
theorem dX1_workTwo_82 : decode cX1_workTwo 82 = .ok (.getfield 15, 3) := by decide +kernel
theorem dX1_workTwo_85 : decode cX1_workTwo 85 = .ok (.iload 5, 2) := by decide +kernel
theorem dX1_workTwo_87 : decode cX1_workTwo 87 = .ok (.daload, 1) := by decide +kernel
theorem dX1_workTwo_88 : decode cX1_workTwo 88 = .ok (.aload_n 0, 1) := by decide +kernel
theorem dX1_workTwo_89 : decode cX1_workTwo 89 = .ok (.getfield 15, 3) := by decide +kernel
theorem dX1_workTwo_92 : decode cX1_workTwo 92 = .ok (.iload 6, 2) := by decide +kernel
theorem dX1_workTwo_94 : decode cX1_workTwo 94 = .ok (.daload, 1) := by decide +kernel
theorem dX1_workTwo_95 : decode cX1_workTwo 95 = .ok (.invokestatic 198, 3) := by decide +kernel
theorem dX1_workTwo_98 : decode cX1_workTwo 98 = .ok (.goto 20, 3) := by decide +kernel
theorem dX1_workTwo_101 : decode cX1_workTwo 101 = .ok (.aload_n 0, 1) := by decide +kernel
theorem dX1_workTwo_102 : decode cX1_workTwo 102 = .ok (.getfield 9, 3) := by decide +kernel
theorem dX1_workTwo_105 : decode cX1_workTwo 105 = .ok (.iload 5, 2) := by decide +kernel
theorem dX1_workTwo_107 : decode cX1_workTwo 107 = .ok (.laload, 1) := by decide +kernel
theorem dX1_workTwo_108 : decode cX1_workTwo 108 = .ok (.aload_n 0, 1) := by decide +kernel
theorem dX1_workTwo_109 : decode cX1_workTwo 109 = .ok (.getfield 9, 3) := by decide +kernel
theorem dX1_workTwo_112 : decode cX1_workTwo 112 = .ok (.iload 6, 2) := by decide +kernel
theorem dX1_workTwo_114 : decode cX1_workTwo 114 = .ok (.laload, 1) := by decide +kernel
theorem dX1_workTwo_115 : decode cX1_workTwo 115 = .ok (.invokestatic 202, 3) := by decide +kernel
theorem dX1_workTwo_118 : decode cX1_workTwo 118 = .ok (.istore 8, 2) := by decide +kernel
theorem dX1_workTwo_120 : decode cX1_workTwo 120 = .ok (.aload_n 0, 1) := by decide +kernel
theorem dX1_workTwo_121 : decode cX1_workTwo 121 = .ok (.getfield 9, 3) := by decide +kernel
theorem dX1_workTwo_124 : decode cX1_workTwo 124 = .ok (.iload 5, 2) := by decide +kernel
theorem dX1_workTwo_126 : decode cX1_workTwo 126 = .ok (.iload_n 1, 1) := by decide +kernel
theorem dX1_workTwo_127 : decode cX1_workTwo 127 = .ok (.iload 8, 2) := by decide +kernel
theorem dX1_workTwo_129 : decode cX1_workTwo 129 = .ok (.invokestatic 208, 3) := by decide +kernel
theorem dX1_workTwo_132 : decode cX1_workTwo 132 = .ok (.ifCond .eq 7, 3) := by decide +kernel
theorem dX1_workTwo_135 : decode cX1_workTwo 135 = .ok (.lconst 1, 1) := by decide +kernel
theorem dX1_workTwo_136 : decode cX1_workTwo 136 = .ok (.goto 4, 3) := by decide +kernel
theorem dX1_workTwo_139 : decode cX1_workTwo 139 = .ok (.lconst 0, 1) := by decide +kernel
theorem dX1_workTwo_140 : decode cX1_workTwo 140 = .ok (.lastore, 1) := by decide +kernel
theorem dX1_workTwo_141 : decode cX1_workTwo 141 = .ok (.goto 82, 3) := by decide +kernel
theorem dX1_workTwo_144 : decode cX1_workTwo 144 = .ok (.iload 7, 2) := by decide +kernel
theorem dX1_workTwo_146 : decode cX1_workTwo 146 = .ok (.ifCond .eq 34, 3) := by decide +kernel
theorem dX1_workTwo_149 : decode cX1_workTwo 149 = .ok (.aload_n 0, 1) := by decide +kernel
theorem dX1_workTwo_150 : decode cX1_workTwo 150 = .ok (.getfield 15, 3) := by decide +kernel
theorem dX1_workTwo_153 : decode cX1_workTwo 153 = .ok (.iload 5, 2) := by decide +kernel
theorem dX1_workTwo_155 : decode cX1_workTwo 155 = .ok (.aload_n 0, 1) := by decide +kernel
theorem dX1_workTwo_156 : decode cX1_workTwo 156 = .ok (.iload_n 1, 1) := by decide +kernel
theorem dX1_workTwo_157 : decode cX1_workTwo 157 = .ok (.iload 4, 2) := by decide +kernel
theorem dX1_workTwo_159 : decode cX1_workTwo 159 = .ok (.aload_n 0, 1) := by decide +kernel
theorem dX1_workTwo_160 : decode cX1_workTwo 160 = .ok (.getfield 15, 3) := by decide +kernel
theorem dX1_workTwo_163 : decode cX1_workTwo 163 = .ok (.iload 5, 2) := by decide +kernel
theorem dX1_workTwo_165 : decode cX1_workTwo 165 = .ok (.daload, 1) := by decide +kernel
theorem dX1_workTwo_166 : decode cX1_workTwo 166 = .ok (.aload_n 0, 1) := by decide +kernel
theorem dX1_workTwo_167 : decode cX1_workTwo 167 = .ok (.getfield 15, 3) := by decide +kernel
theorem dX1_workTwo_170 : decode cX1_workTwo 170 = .ok (.iload 6, 2) := by decide +kernel
theorem dX1_workTwo_172 : decode cX1_workTwo 172 = .ok (.daload, 1) := by decide +kernel
theorem dX1_workTwo_173 : decode cX1_workTwo 173 = .ok (.invokevirtual 212, 3) := by decide +kernel
theorem dX1_workTwo_176 : decode cX1_workTwo 176 = .ok (.dastore, 1) := by decide +kernel
theorem dX1_workTwo_177 : decode cX1_workTwo 177 = .ok (.goto 46, 3) := by decide +kernel
theorem dX1_workTwo_180 : decode cX1_workTwo 180 = .ok (.aload_n 0, 1) := by decide +kernel
theorem dX1_workTwo_181 : decode cX1_workTwo 181 = .ok (.iload_n 1, 1) := by decide +kernel
theorem dX1_workTwo_182 : decode cX1_workTwo 182 = .ok (.aload_n 0, 1) := by decide +kernel
theorem dX1_workTwo_183 : decode cX1_workTwo 183 = .ok (.getfield 9, 3) := by decide +kernel
theorem dX1_workTwo_186 : decode cX1_workTwo 186 = .ok (.iload 5, 2) := by decide +kernel
theorem dX1_workTwo_188 : decode cX1_workTwo 188 = .ok (.laload, 1) := by decide +kernel
theorem dX1_workTwo_189 : decode cX1_workTwo 189 = .ok (.aload_n 0, 1) := by decide +kernel
theorem dX1_workTwo_190 : decode cX1_workTwo 190 = .ok (.getfield 9, 3) := by decide +kernel
theorem dX1_workTwo_193 : decode cX1_workTwo 193 = .ok (.iload 6, 2) := by decide +kernel
theorem dX1_workTwo_195 : decode cX1_workTwo 195 = .ok (.laload, 1) := by decide +kernel
theorem dX1_workTwo_196 : decode cX1_workTwo 196 = .ok (.invokevirtual 216, 3) := by decide +kernel
theorem dX1_workTwo_199 : decode cX1_workTwo 199 = .ok (.lstore 8, 2) := by decide +kernel
theorem dX1_workTwo_201 : decode cX1_workTwo 201 = .ok (.aload_n 0, 1) := by decide +kernel
theorem dX1_workTwo_202 : decode cX1_workTwo 202 = .ok (.getfield 9, 3) := by decide +kernel
theorem dX1_workTwo_205 : decode cX1_workTwo 205 = .ok (.iload 5, 2) := by decide +kernel
theorem dX1_workTwo_207 : decode cX1_workTwo 207 = .ok (.iload 4, 2) := by decide +kernel
theorem dX1_workTwo_209 : decode cX1_workTwo 209 = .ok (.iconst 4, 1) := by decide +kernel
theorem dX1_workTwo_210 : decode cX1_workTwo 210 = .ok (.if_icmp .ne 10, 3) := by decide +kernel
theorem dX1_workTwo_213 : decode cX1_workTwo 213 = .ok (.lload 8, 2) := by decide +kernel
theorem dX1_workTwo_215 : decode cX1_workTwo 215 = .ok (.l2i, 1) := by decide +kernel
theorem dX1_workTwo_216 : decode cX1_workTwo 216 = .ok (.i2l, 1) := by decide +kernel
theorem dX1_workTwo_217 : decode cX1_workTwo 217 = .ok (.goto 5, 3) := by decide +kernel
theorem dX1_workTwo_220 : decode cX1_workTwo 220 = .ok (.lload 8, 2) := by decide +kernel
theorem dX1_workTwo_222 : decode cX1_workTwo 222 = .ok (.lastore, 1) := by decide +kernel
theorem dX1_workTwo_223 : decode cX1_workTwo 223 = .ok (.return_, 1) := by decide +kernel
abbrev R_X1_workTwo : Room := ({ frames := 4, cells := 0, slots := 0, locals := 159 } : Room)
def b_X1_workTwo_222 (n : Nat) (gT : Gs) (gT_0 : Gs) (s0 : Int64) (s1 : Int32) : Option (Gs) :=
  grd (inB s1 512) (some (sLA gT 2 (vp_updL (gLA gT 2) s1.toNatClampNeg s0)))
def b_X1_workTwo_144 (n : Nat) (gT : Gs) (gT_0 : Gs) (v1 : Int32) (v4 : Int32) (v5 : Int32) (v6 : Int32) (v7 : Int32) : Option (Gs) :=
  if v7 = 0 then (grd (inB v5 512) (grd (inB v6 512) (bnd (f_X1_workWholes gT v1 (gLA gT 2 v5.toNatClampNeg) (gLA gT 2 v6.toNatClampNeg)) (fun q_7 => if v4 = (4 : Int32) then (b_X1_workTwo_222 n q_7.2 gT_0 q_7.1.toInt32.toInt64 v5) else (b_X1_workTwo_222 n q_7.2 gT_0 q_7.1 v5))))) else (grd (inB v5 512) (grd (inB v6 512) (bnd (f_X1_workReals n gT gT_0 v1 v4 (gDA gT 3 v5.toNatClampNeg) (gDA gT 3 v6.toNatClampNeg)) (fun q_12 => grd (inB v5 512) (some (sDA q_12.2 3 (vf_upd (gDA q_12.2 3) v5.toNatClampNeg q_12.1)))))))
def b_X1_workTwo_140 (n : Nat) (gT : Gs) (gT_0 : Gs) (s0 : Int64) (s1 : Int32) : Option (Gs) :=
  grd (inB s1 512) (some (sLA gT 2 (vp_updL (gLA gT 2) s1.toNatClampNeg s0)))
def b_X1_workTwo_118 (n : Nat) (gT : Gs) (gT_0 : Gs) (v1 : Int32) (v5 : Int32) (s0 : Int32) : Option (Gs) :=
  bnd (f_X1_holds v1 s0) (fun q_19 => if q_19 = 0 then (b_X1_workTwo_140 n gT gT_0 (0 : Int64) v5) else (b_X1_workTwo_140 n gT gT_0 (1 : Int64) v5))
def b_X1_workTwo_62 (n : Nat) (gT : Gs) (gT_0 : Gs) (v1 : Int32) (v4 : Int32) (v5 : Int32) (v6 : Int32) (s0 : Int32) : Option (Gs) :=
  if v1 < (55 : Int32) then (b_X1_workTwo_144 n gT gT_0 v1 v4 v5 v6 s0) else (if (60 : Int32) < v1 then (b_X1_workTwo_144 n gT gT_0 v1 v4 v5 v6 s0) else (if s0 = 0 then (grd (inB v5 512) (grd (inB v6 512) (bnd (f_J13_compare_74951 (gLA gT 2 v5.toNatClampNeg) (gLA gT 2 v6.toNatClampNeg)) (fun q_17 => b_X1_workTwo_118 n gT gT_0 v1 v5 q_17)))) else (grd (inB v5 512) (grd (inB v6 512) (bnd (f_X1_orderOf (gDA gT 3 v5.toNatClampNeg) (gDA gT 3 v6.toNatClampNeg)) (fun q_24 => b_X1_workTwo_118 n gT gT_0 v1 v5 q_24))))))
def f_X1_workTwo (n : Nat) (gT : Gs) (gT_0 : Gs) (x0 : Int32) (x1 : Int32) (x2 : Int32) (x3 : Int32) : Option (Gs) :=
  if 0 ≤ ((gI gT 4) - (2 : Int32)) then (bnd (f_X1_become gT ((gI gT 4) - (2 : Int32)) x1 x3) (fun q_1 => bnd (f_X1_become q_1 ((gI gT 4) - (1 : Int32)) x2 x3) (fun q_3 => if x3 < (6 : Int32) then (b_X1_workTwo_62 n (sI q_3 4 ((gI q_3 4) - (1 : Int32))) gT_0 x0 x3 ((gI gT 4) - (2 : Int32)) ((gI gT 4) - (1 : Int32)) (0 : Int32)) else (b_X1_workTwo_62 n (sI q_3 4 ((gI q_3 4) - (1 : Int32))) gT_0 x0 x3 ((gI gT 4) - (2 : Int32)) ((gI gT 4) - (1 : Int32)) (1 : Int32))))) else (some gT)
def S_X1_workTwo_222 (l : Launch) (D : Dx) (hT : Nat) (aT : Nat → Nat) (yT : Nat → ClassId) (aT_0 : Nat → Nat) (yT_0 : Nat → ClassId) (fn : Gs → Gs → Int64 → Int32 → Option (Gs)) : Prop :=
  ∀ {p : Program} {e : Env} {s : State} {m : MethodId} {args : Array Value} {below : List Frame} {meth : Method} {c : Code} {H : Heap} {locs : List Loc} {A : Nat → Prop} {ls : Array Slot} {gT : Gs} {gT_0 : Gs} {s0 : Int64} {s1 : Int32} {q : Gs}, Cx p s m args meth c cX1_workTwo none 10 RX1 lw_all → Hx D (tX1 yT ++ (tX6 yT_0)) A s H locs (wX1 hT aT yT gT ++ (wX6 (aT 0) aT_0 yT_0 gT_0)) → lv_has ls 10 [] → fn gT gT_0 s0 s1 = some q → W p l e R_X1_workTwo s m args below meth c H locs 0 0 (MQ below (QV D A (wX1 hT aT yT q ++ (wX6 (aT 0) aT_0 yT_0 gT_0))) args s 0 0 A) (F0 m 222 ls [.long s0, .int s1, .ref (aT 2)])
def S_X1_workTwo_144 (l : Launch) (D : Dx) (hT : Nat) (aT : Nat → Nat) (yT : Nat → ClassId) (aT_0 : Nat → Nat) (yT_0 : Nat → ClassId) (fn : Gs → Gs → Int32 → Int32 → Int32 → Int32 → Int32 → Option (Gs)) : Prop :=
  ∀ {p : Program} {e : Env} {s : State} {m : MethodId} {args : Array Value} {below : List Frame} {meth : Method} {c : Code} {H : Heap} {locs : List Loc} {A : Nat → Prop} {ls : Array Slot} {gT : Gs} {gT_0 : Gs} {v1 : Int32} {v4 : Int32} {v5 : Int32} {v6 : Int32} {v7 : Int32} {q : Gs}, Cx p s m args meth c cX1_workTwo none 10 RX1 lw_all → Hx D (tX1 yT ++ (tX6 yT_0)) A s H locs (wX1 hT aT yT gT ++ (wX6 (aT 0) aT_0 yT_0 gT_0)) → lv_has ls 10 [(0, .ref hT), (1, .int v1), (4, .int v4), (5, .int v5), (6, .int v6), (7, .int v7)] → fn gT gT_0 v1 v4 v5 v6 v7 = some q → W p l e R_X1_workTwo s m args below meth c H locs 0 0 (MQ below (QV D A (wX1 hT aT yT q ++ (wX6 (aT 0) aT_0 yT_0 gT_0))) args s 0 0 A) (F0 m 144 ls [])
def S_X1_workTwo_140 (l : Launch) (D : Dx) (hT : Nat) (aT : Nat → Nat) (yT : Nat → ClassId) (aT_0 : Nat → Nat) (yT_0 : Nat → ClassId) (fn : Gs → Gs → Int64 → Int32 → Option (Gs)) : Prop :=
  ∀ {p : Program} {e : Env} {s : State} {m : MethodId} {args : Array Value} {below : List Frame} {meth : Method} {c : Code} {H : Heap} {locs : List Loc} {A : Nat → Prop} {ls : Array Slot} {gT : Gs} {gT_0 : Gs} {s0 : Int64} {s1 : Int32} {q : Gs}, Cx p s m args meth c cX1_workTwo none 10 RX1 lw_all → Hx D (tX1 yT ++ (tX6 yT_0)) A s H locs (wX1 hT aT yT gT ++ (wX6 (aT 0) aT_0 yT_0 gT_0)) → lv_has ls 10 [] → fn gT gT_0 s0 s1 = some q → W p l e R_X1_workTwo s m args below meth c H locs 0 0 (MQ below (QV D A (wX1 hT aT yT q ++ (wX6 (aT 0) aT_0 yT_0 gT_0))) args s 0 0 A) (F0 m 140 ls [.long s0, .int s1, .ref (aT 2)])
def S_X1_workTwo_118 (l : Launch) (D : Dx) (hT : Nat) (aT : Nat → Nat) (yT : Nat → ClassId) (aT_0 : Nat → Nat) (yT_0 : Nat → ClassId) (fn : Gs → Gs → Int32 → Int32 → Int32 → Option (Gs)) : Prop :=
  ∀ {p : Program} {e : Env} {s : State} {m : MethodId} {args : Array Value} {below : List Frame} {meth : Method} {c : Code} {H : Heap} {locs : List Loc} {A : Nat → Prop} {ls : Array Slot} {gT : Gs} {gT_0 : Gs} {v1 : Int32} {v5 : Int32} {s0 : Int32} {q : Gs}, Cx p s m args meth c cX1_workTwo none 10 RX1 lw_all → Hx D (tX1 yT ++ (tX6 yT_0)) A s H locs (wX1 hT aT yT gT ++ (wX6 (aT 0) aT_0 yT_0 gT_0)) → lv_has ls 10 [(0, .ref hT), (1, .int v1), (5, .int v5)] → fn gT gT_0 v1 v5 s0 = some q → W p l e R_X1_workTwo s m args below meth c H locs 0 0 (MQ below (QV D A (wX1 hT aT yT q ++ (wX6 (aT 0) aT_0 yT_0 gT_0))) args s 0 0 A) (F0 m 118 ls [.int s0])
def S_X1_workTwo_62 (l : Launch) (D : Dx) (hT : Nat) (aT : Nat → Nat) (yT : Nat → ClassId) (aT_0 : Nat → Nat) (yT_0 : Nat → ClassId) (fn : Gs → Gs → Int32 → Int32 → Int32 → Int32 → Int32 → Option (Gs)) : Prop :=
  ∀ {p : Program} {e : Env} {s : State} {m : MethodId} {args : Array Value} {below : List Frame} {meth : Method} {c : Code} {H : Heap} {locs : List Loc} {A : Nat → Prop} {ls : Array Slot} {gT : Gs} {gT_0 : Gs} {v1 : Int32} {v4 : Int32} {v5 : Int32} {v6 : Int32} {s0 : Int32} {q : Gs}, Cx p s m args meth c cX1_workTwo none 10 RX1 lw_all → Hx D (tX1 yT ++ (tX6 yT_0)) A s H locs (wX1 hT aT yT gT ++ (wX6 (aT 0) aT_0 yT_0 gT_0)) → lv_has ls 10 [(0, .ref hT), (1, .int v1), (4, .int v4), (5, .int v5), (6, .int v6)] → fn gT gT_0 v1 v4 v5 v6 s0 = some q → W p l e R_X1_workTwo s m args below meth c H locs 0 0 (MQ below (QV D A (wX1 hT aT yT q ++ (wX6 (aT 0) aT_0 yT_0 gT_0))) args s 0 0 A) (F0 m 62 ls [.int s0])
set_option maxHeartbeats 4000000 in
set_option maxRecDepth 100000 in
theorem k_X1_workTwo_222 (l : Launch) (D : Dx) (hT : Nat) (aT : Nat → Nat) (yT : Nat → ClassId) (aT_0 : Nat → Nat) (yT_0 : Nat → ClassId) (n : Nat) : S_X1_workTwo_222 l D hT aT yT aT_0 yT_0 (b_X1_workTwo_222 n) := by
  intro p e s m args below meth c H locs A ls gT gT_0 s0 s1 q C X hl hF
  obtain ⟨hx, hb, hr, hml, hown, hts, hlk⟩ := id C
  unfold b_X1_workTwo_222 at hF
  obtain ⟨h_9, hF⟩ := grd_some hF
  refine va_last (D := D.1) (f := gLA gT 2) hx hb X.1 X.2.1 X.2.2.1 X.2.2.2.1 1 0 rfl rfl (inB_ok h_9) dX1_workTwo_222 (fun H locs hP hD hS => ?_)
  have X : Hx D (tX1 yT ++ (tX6 yT_0)) A s H locs (wX1 hT aT yT (sLA gT 2 (vp_updL (gLA gT 2) s1.toNatClampNeg s0)) ++ (wX6 (aT 0) aT_0 yT_0 gT_0)) := Hx_set X (set_l (by rw [wG_len (m := 3) rfl]; decide) (wG_sLA (i := 0) (k := 2) ndX1 rfl rfl)) hP hD hS
  have hq := Option.some.inj hF
  subst hq
  exact rt_v C X dX1_workTwo_223
set_option maxHeartbeats 4000000 in
set_option maxRecDepth 100000 in
theorem k_X1_workTwo_144 (l : Launch) (D : Dx) (hT : Nat) (aT : Nat → Nat) (yT : Nat → ClassId) (aT_0 : Nat → Nat) (yT_0 : Nat → ClassId) (n : Nat) : S_X1_workTwo_144 l D hT aT yT aT_0 yT_0 (b_X1_workTwo_144 n) := by
  intro p e s m args below meth c H locs A ls gT gT_0 v1 v4 v5 v6 v7 q C X hl hF
  obtain ⟨hx, hb, hr, hml, hown, hts, hlk⟩ := id C
  unfold b_X1_workTwo_144 at hF
  refine lv_iload hx hb dX1_workTwo_144 (lv_at hl 5 rfl) ?_
  refine lv_if_eq (tgt := 180) hx hb dX1_workTwo_146 (by decide) (fun c => ?_) (fun c => ?_)
  · replace hF := iT c hF
    refine lv_aload_n hx hb dX1_workTwo_180 rfl (lv_at hl 0 rfl) ?_
    refine lv_iload_n hx hb dX1_workTwo_181 rfl (lv_at hl 1 rfl) ?_
    refine lv_aload_n hx hb dX1_workTwo_182 rfl (lv_at hl 0 rfl) ?_
    refine va_get (D := D.1) (ci := 1) (v := .ref (aT 2)) (C := RX1) (T := TX1) (N := 7) hx hb hts wi_X1 hown X.1 X.2.1 0 rfl rfl 2 (by decide) (hts _ q1_139) (fun _ h9 => h9) (fl_get (by decide)) dX1_workTwo_183 ?_
    refine lv_iload hx hb dX1_workTwo_186 (lv_at hl 3 rfl) ?_
    obtain ⟨h_5, hF⟩ := grd_some hF
    refine va_lald (D := D.1) (f := gLA gT 2) hx hb X.1 X.2.1 1 0 rfl rfl (inB_ok h_5) dX1_workTwo_188 ?_
    refine lv_aload_n hx hb dX1_workTwo_189 rfl (lv_at hl 0 rfl) ?_
    refine va_get (D := D.1) (ci := 1) (v := .ref (aT 2)) (C := RX1) (T := TX1) (N := 7) hx hb hts wi_X1 hown X.1 X.2.1 0 rfl rfl 2 (by decide) (hts _ q1_139) (fun _ h9 => h9) (fl_get (by decide)) dX1_workTwo_190 ?_
    refine lv_iload hx hb dX1_workTwo_193 (lv_at hl 4 rfl) ?_
    obtain ⟨h_6, hF⟩ := grd_some hF
    refine va_lald (D := D.1) (f := gLA gT 2) hx hb X.1 X.2.1 1 0 rfl rfl (inB_ok h_6) dX1_workTwo_195 ?_
    obtain ⟨q_7, hc_8, hF⟩ := bnd_some hF
    refine cV_l (As := [.int v1, .long (gLA gT 2 v5.toNatClampNeg), .long (gLA gT 2 v6.toNatClampNeg)]) (rest := []) C X (c_X1_workWholes l D hT aT yT gT v1 (gLA gT 2 v5.toNatClampNeg) (gLA gT 2 v6.toNatClampNeg) q_7 hc_8 _) (cwV 3 hts (good_V q5_130 q5_132 q0_56 q1_4 q5_133) rfl rfl rfl (by decide +kernel) ⟨Nat.le_of_ble_eq_true rfl, Nat.le_of_ble_eq_true rfl⟩) (va_recv X.1 X.2.1 (ci := 1) (q0 := 0) rfl rfl) (X.1.sub (tys' := tX1 yT) [0, 1] rfl) (X.2.1.sub (ws' := wX1 hT aT yT gT) [0, 1, 2] rfl) (X.2.2.1.sub (ws' := wX1 hT aT yT gT) [0, 1, 2] (by decide) rfl) (free_of (wC := wX1 hT aT yT gT) (isC := [0, 1, 2]) X rfl) hl.1 rfl rfl (Nat.le_of_ble_eq_true rfl) dX1_workTwo_196 ⟨Nat.le_of_ble_eq_true rfl, Nat.le_of_ble_eq_true rfl⟩ (fun t H1 locs1 ht hB hk hS => ?_)
    have X : Hx D (tX1 yT ++ (tX6 yT_0)) A s H1 locs1 (wX1 hT aT yT q_7.2 ++ (wX6 (aT 0) aT_0 yT_0 gT_0)) := Hx_after (isC := [0, 1, 2]) (isR := [3, 4]) (pm := [2, 3, 4, 0, 1]) (wr := wX6 (aT 0) aT_0 yT_0 gT_0) X ⟨rfl, rfl, by decide, by decide, rfl, by decide⟩ ht hB hk hS
    clear hk hS ht hB
    generalize H1 = H at X ⊢
    generalize locs1 = locs at X ⊢
    refine lv_lstore (lv' := [(8, .long q_7.1), (0, .ref hT), (1, .int v1), (4, .int v4), (5, .int v5), (6, .int v6), (7, .int v7)]) hx hb dX1_workTwo_199 hl (by decide) rfl (fun ls hl => ?_)
    refine lv_aload_n hx hb dX1_workTwo_201 rfl (lv_at hl 1 rfl) ?_
    refine va_get (D := D.1) (ci := 1) (v := .ref (aT 2)) (C := RX1) (T := TX1) (N := 7) hx hb hts wi_X1 hown X.1 X.2.1 0 rfl rfl 2 (by decide) (hts _ q1_139) (fun _ h9 => h9) (fl_get (by decide)) dX1_workTwo_202 ?_
    refine lv_iload hx hb dX1_workTwo_205 (lv_at hl 4 rfl) ?_
    refine lv_iload hx hb dX1_workTwo_207 (lv_at hl 3 rfl) ?_
    refine lv_iconst (v := (4 : Int32)) hx hb dX1_workTwo_209 (by decide) ?_
    refine lv_icmp_ne (tgt := 220) hx hb dX1_workTwo_210 (by decide) (fun c => ?_) (fun c => ?_)
    · replace hF := iF c hF
      refine lv_lload hx hb dX1_workTwo_220 (lv_at hl 0 rfl) ?_
      exact (k_X1_workTwo_222 l D hT aT yT aT_0 yT_0 n) C X (lv_sub hl [] rfl) hF
    · replace hF := iT c hF
      refine lv_lload hx hb dX1_workTwo_213 (lv_at hl 0 rfl) ?_
      refine lv_l2i hx hb dX1_workTwo_215 rfl ?_
      refine lv_i2l hx hb dX1_workTwo_216 rfl ?_
      refine lv_goto (tgt := 222) hx hb dX1_workTwo_217 (by decide) ?_
      exact (k_X1_workTwo_222 l D hT aT yT aT_0 yT_0 n) C X (lv_sub hl [] rfl) hF
  · replace hF := iF c hF
    refine lv_aload_n hx hb dX1_workTwo_149 rfl (lv_at hl 0 rfl) ?_
    refine va_get (D := D.1) (ci := 1) (v := .ref (aT 3)) (C := RX1) (T := TX1) (N := 7) hx hb hts wi_X1 hown X.1 X.2.1 0 rfl rfl 3 (by decide) (hts _ q1_141) (fun _ h9 => h9) (fl_get (by decide)) dX1_workTwo_150 ?_
    refine lv_iload hx hb dX1_workTwo_153 (lv_at hl 3 rfl) ?_
    refine lv_aload_n hx hb dX1_workTwo_155 rfl (lv_at hl 0 rfl) ?_
    refine lv_iload_n hx hb dX1_workTwo_156 rfl (lv_at hl 1 rfl) ?_
    refine lv_iload hx hb dX1_workTwo_157 (lv_at hl 2 rfl) ?_
    refine lv_aload_n hx hb dX1_workTwo_159 rfl (lv_at hl 0 rfl) ?_
    refine va_get (D := D.1) (ci := 1) (v := .ref (aT 3)) (C := RX1) (T := TX1) (N := 7) hx hb hts wi_X1 hown X.1 X.2.1 0 rfl rfl 3 (by decide) (hts _ q1_141) (fun _ h9 => h9) (fl_get (by decide)) dX1_workTwo_160 ?_
    refine lv_iload hx hb dX1_workTwo_163 (lv_at hl 3 rfl) ?_
    obtain ⟨h_10, hF⟩ := grd_some hF
    refine va_dald (D := D.1) (f := gDA gT 3) hx hb X.1 X.2.1 2 1 rfl rfl (inB_ok h_10) dX1_workTwo_165 ?_
    refine lv_aload_n hx hb dX1_workTwo_166 rfl (lv_at hl 0 rfl) ?_
    refine va_get (D := D.1) (ci := 1) (v := .ref (aT 3)) (C := RX1) (T := TX1) (N := 7) hx hb hts wi_X1 hown X.1 X.2.1 0 rfl rfl 3 (by decide) (hts _ q1_141) (fun _ h9 => h9) (fl_get (by decide)) dX1_workTwo_167 ?_
    refine lv_iload hx hb dX1_workTwo_170 (lv_at hl 4 rfl) ?_
    obtain ⟨h_11, hF⟩ := grd_some hF
    refine va_dald (D := D.1) (f := gDA gT 3) hx hb X.1 X.2.1 2 1 rfl rfl (inB_ok h_11) dX1_workTwo_172 ?_
    obtain ⟨q_12, hc_13, hF⟩ := bnd_some hF
    refine cV_d (As := [.int v1, .int v4, .double (gDA gT 3 v5.toNatClampNeg), .double (gDA gT 3 v6.toNatClampNeg)]) (rest := [.int v5, .ref (aT 3)]) C X (c_X1_workReals l D hT aT yT aT_0 yT_0 n gT gT_0 v1 v4 (gDA gT 3 v5.toNatClampNeg) (gDA gT 3 v6.toNatClampNeg) q_12 hc_13 _) (cwV 4 hts (good_V q5_98 q5_100 q0_54 q1_4 q5_101) rfl rfl rfl (by decide +kernel) ⟨Nat.le_of_ble_eq_true rfl, Nat.le_of_ble_eq_true rfl⟩) (va_recv X.1 X.2.1 (ci := 1) (q0 := 0) rfl rfl) X.1 X.2.1 X.2.2.1 (free_all X) hl.1 rfl rfl (Nat.le_of_ble_eq_true rfl) dX1_workTwo_173 ⟨Nat.le_of_ble_eq_true rfl, Nat.le_of_ble_eq_true rfl⟩ (fun t H1 locs1 ht hB hk hS => ?_)
    have X : Hx D (tX1 yT ++ (tX6 yT_0)) A s H1 locs1 (wX1 hT aT yT q_12.2 ++ (wX6 (aT 0) aT_0 yT_0 gT_0)) := Hx_after_all X ht hB hS
    clear hk hS ht hB
    generalize H1 = H at X ⊢
    generalize locs1 = locs at X ⊢
    obtain ⟨h_14, hF⟩ := grd_some hF
    refine va_dast (D := D.1) (f := gDA q_12.2 3) hx hb X.1 X.2.1 X.2.2.1 X.2.2.2.1 2 1 rfl rfl (inB_ok h_14) dX1_workTwo_176 (fun H locs hP hD hS => ?_)
    have X : Hx D (tX1 yT ++ (tX6 yT_0)) A s H locs (wX1 hT aT yT (sDA q_12.2 3 (vf_upd (gDA q_12.2 3) v5.toNatClampNeg q_12.1)) ++ (wX6 (aT 0) aT_0 yT_0 gT_0)) := Hx_set X (set_l (by rw [wG_len (m := 3) rfl]; decide) (wG_sDA (i := 1) (k := 3) ndX1 rfl rfl)) hP hD hS
    refine lv_goto (tgt := 223) hx hb dX1_workTwo_177 (by decide) ?_
    have hq := Option.some.inj hF
    subst hq
    exact rt_v C X dX1_workTwo_223
set_option maxHeartbeats 4000000 in
set_option maxRecDepth 100000 in
theorem k_X1_workTwo_140 (l : Launch) (D : Dx) (hT : Nat) (aT : Nat → Nat) (yT : Nat → ClassId) (aT_0 : Nat → Nat) (yT_0 : Nat → ClassId) (n : Nat) : S_X1_workTwo_140 l D hT aT yT aT_0 yT_0 (b_X1_workTwo_140 n) := by
  intro p e s m args below meth c H locs A ls gT gT_0 s0 s1 q C X hl hF
  obtain ⟨hx, hb, hr, hml, hown, hts, hlk⟩ := id C
  unfold b_X1_workTwo_140 at hF
  obtain ⟨h_21, hF⟩ := grd_some hF
  refine va_last (D := D.1) (f := gLA gT 2) hx hb X.1 X.2.1 X.2.2.1 X.2.2.2.1 1 0 rfl rfl (inB_ok h_21) dX1_workTwo_140 (fun H locs hP hD hS => ?_)
  have X : Hx D (tX1 yT ++ (tX6 yT_0)) A s H locs (wX1 hT aT yT (sLA gT 2 (vp_updL (gLA gT 2) s1.toNatClampNeg s0)) ++ (wX6 (aT 0) aT_0 yT_0 gT_0)) := Hx_set X (set_l (by rw [wG_len (m := 3) rfl]; decide) (wG_sLA (i := 0) (k := 2) ndX1 rfl rfl)) hP hD hS
  refine lv_goto (tgt := 223) hx hb dX1_workTwo_141 (by decide) ?_
  have hq := Option.some.inj hF
  subst hq
  exact rt_v C X dX1_workTwo_223
set_option maxHeartbeats 4000000 in
set_option maxRecDepth 100000 in
theorem k_X1_workTwo_118 (l : Launch) (D : Dx) (hT : Nat) (aT : Nat → Nat) (yT : Nat → ClassId) (aT_0 : Nat → Nat) (yT_0 : Nat → ClassId) (n : Nat) : S_X1_workTwo_118 l D hT aT yT aT_0 yT_0 (b_X1_workTwo_118 n) := by
  intro p e s m args below meth c H locs A ls gT gT_0 v1 v5 s0 q C X hl hF
  obtain ⟨hx, hb, hr, hml, hown, hts, hlk⟩ := id C
  unfold b_X1_workTwo_118 at hF
  refine lv_istore (lv' := [(8, .int s0), (0, .ref hT), (1, .int v1), (5, .int v5)]) hx hb dX1_workTwo_118 hl (by decide) rfl (fun ls hl => ?_)
  refine lv_aload_n hx hb dX1_workTwo_120 rfl (lv_at hl 1 rfl) ?_
  refine va_get (D := D.1) (ci := 1) (v := .ref (aT 2)) (C := RX1) (T := TX1) (N := 7) hx hb hts wi_X1 hown X.1 X.2.1 0 rfl rfl 2 (by decide) (hts _ q1_139) (fun _ h9 => h9) (fl_get (by decide)) dX1_workTwo_121 ?_
  refine lv_iload hx hb dX1_workTwo_124 (lv_at hl 3 rfl) ?_
  refine lv_iload_n hx hb dX1_workTwo_126 rfl (lv_at hl 2 rfl) ?_
  refine lv_iload hx hb dX1_workTwo_127 (lv_at hl 0 rfl) ?_
  obtain ⟨q_19, hc_20, hF⟩ := bnd_some hF
  refine cS_i (As := [.int v1, .int s0]) (rest := [.int v5, .ref (aT 2)]) C X (c_X1_holds l D  v1 s0 q_19 hc_20 _) (va_cwS 2 hts (good_S q5_95 q5_96 q1_4 q5_97) rfl rfl rfl (by decide +kernel) ⟨Nat.le_of_ble_eq_true rfl, Nat.le_of_ble_eq_true rfl⟩) (eK X) eP (eD (A := A)) (eF X) hl.1 rfl rfl (Nat.le_of_ble_eq_true rfl) dX1_workTwo_129 ⟨Nat.le_of_ble_eq_true rfl, Nat.le_of_ble_eq_true rfl⟩ (fun t H1 locs1 ht hB hk hS => ?_)
  have X := Hx_after_none X hk hS
  clear hk hS ht hB
  generalize H1 = H at X ⊢
  generalize locs1 = locs at X ⊢
  refine lv_if_eq (tgt := 139) hx hb dX1_workTwo_132 (by decide) (fun c => ?_) (fun c => ?_)
  · replace hF := iT c hF
    refine lv_lconst (v := (0 : Int64)) hx hb dX1_workTwo_139 (by decide) ?_
    exact (k_X1_workTwo_140 l D hT aT yT aT_0 yT_0 n) C X (lv_sub hl [] rfl) hF
  · replace hF := iF c hF
    refine lv_lconst (v := (1 : Int64)) hx hb dX1_workTwo_135 (by decide) ?_
    refine lv_goto (tgt := 140) hx hb dX1_workTwo_136 (by decide) ?_
    exact (k_X1_workTwo_140 l D hT aT yT aT_0 yT_0 n) C X (lv_sub hl [] rfl) hF
set_option maxHeartbeats 4000000 in
set_option maxRecDepth 100000 in
theorem k_X1_workTwo_62 (l : Launch) (D : Dx) (hT : Nat) (aT : Nat → Nat) (yT : Nat → ClassId) (aT_0 : Nat → Nat) (yT_0 : Nat → ClassId) (n : Nat) : S_X1_workTwo_62 l D hT aT yT aT_0 yT_0 (b_X1_workTwo_62 n) := by
  intro p e s m args below meth c H locs A ls gT gT_0 v1 v4 v5 v6 s0 q C X hl hF
  obtain ⟨hx, hb, hr, hml, hown, hts, hlk⟩ := id C
  unfold b_X1_workTwo_62 at hF
  refine lv_istore (lv' := [(7, .int s0), (0, .ref hT), (1, .int v1), (4, .int v4), (5, .int v5), (6, .int v6)]) hx hb dX1_workTwo_62 hl (by decide) rfl (fun ls hl => ?_)
  refine lv_iload_n hx hb dX1_workTwo_64 rfl (lv_at hl 2 rfl) ?_
  refine lv_bipush (v := (55 : Int32)) hx hb dX1_workTwo_65 (by decide) ?_
  refine lv_icmp_lt (tgt := 144) hx hb dX1_workTwo_67 (by decide) (fun c => ?_) (fun c => ?_)
  · replace hF := iT c hF
    exact (k_X1_workTwo_144 l D hT aT yT aT_0 yT_0 n) C X (lv_sub hl [1, 2, 3, 4, 5, 0] rfl) hF
  · replace hF := iF c hF
    refine lv_iload_n hx hb dX1_workTwo_70 rfl (lv_at hl 2 rfl) ?_
    refine lv_bipush (v := (60 : Int32)) hx hb dX1_workTwo_71 (by decide) ?_
    refine lv_icmp_gt (tgt := 144) hx hb dX1_workTwo_73 (by decide) (fun c => ?_) (fun c => ?_)
    · replace hF := iT c hF
      exact (k_X1_workTwo_144 l D hT aT yT aT_0 yT_0 n) C X (lv_sub hl [1, 2, 3, 4, 5, 0] rfl) hF
    · replace hF := iF c hF
      refine lv_iload hx hb dX1_workTwo_76 (lv_at hl 0 rfl) ?_
      refine lv_if_eq (tgt := 101) hx hb dX1_workTwo_78 (by decide) (fun c => ?_) (fun c => ?_)
      · replace hF := iT c hF
        refine lv_aload_n hx hb dX1_workTwo_101 rfl (lv_at hl 1 rfl) ?_
        refine va_get (D := D.1) (ci := 1) (v := .ref (aT 2)) (C := RX1) (T := TX1) (N := 7) hx hb hts wi_X1 hown X.1 X.2.1 0 rfl rfl 2 (by decide) (hts _ q1_139) (fun _ h9 => h9) (fl_get (by decide)) dX1_workTwo_102 ?_
        refine lv_iload hx hb dX1_workTwo_105 (lv_at hl 4 rfl) ?_
        obtain ⟨h_15, hF⟩ := grd_some hF
        refine va_lald (D := D.1) (f := gLA gT 2) hx hb X.1 X.2.1 1 0 rfl rfl (inB_ok h_15) dX1_workTwo_107 ?_
        refine lv_aload_n hx hb dX1_workTwo_108 rfl (lv_at hl 1 rfl) ?_
        refine va_get (D := D.1) (ci := 1) (v := .ref (aT 2)) (C := RX1) (T := TX1) (N := 7) hx hb hts wi_X1 hown X.1 X.2.1 0 rfl rfl 2 (by decide) (hts _ q1_139) (fun _ h9 => h9) (fl_get (by decide)) dX1_workTwo_109 ?_
        refine lv_iload hx hb dX1_workTwo_112 (lv_at hl 5 rfl) ?_
        obtain ⟨h_16, hF⟩ := grd_some hF
        refine va_lald (D := D.1) (f := gLA gT 2) hx hb X.1 X.2.1 1 0 rfl rfl (inB_ok h_16) dX1_workTwo_114 ?_
        obtain ⟨q_17, hc_18, hF⟩ := bnd_some hF
        refine cS_i (As := [.long (gLA gT 2 v5.toNatClampNeg), .long (gLA gT 2 v6.toNatClampNeg)]) (rest := []) C X (c_J13_compare_74951 l D  (gLA gT 2 v5.toNatClampNeg) (gLA gT 2 v6.toNatClampNeg) q_17 hc_18 _) (va_cwS 2 hts (good_S q5_92 q5_93 q1_23 q5_94) rfl rfl rfl (by decide +kernel) ⟨Nat.le_of_ble_eq_true rfl, Nat.le_of_ble_eq_true rfl⟩) (eK X) eP (eD (A := A)) (eF X) hl.1 rfl rfl (Nat.le_of_ble_eq_true rfl) dX1_workTwo_115 ⟨Nat.le_of_ble_eq_true rfl, Nat.le_of_ble_eq_true rfl⟩ (fun t H1 locs1 ht hB hk hS => ?_)
        have X := Hx_after_none X hk hS
        clear hk hS ht hB
        generalize H1 = H at X ⊢
        generalize locs1 = locs at X ⊢
        exact (k_X1_workTwo_118 l D hT aT yT aT_0 yT_0 n) C X (lv_sub hl [1, 2, 4] rfl) hF
      · replace hF := iF c hF
        refine lv_aload_n hx hb dX1_workTwo_81 rfl (lv_at hl 1 rfl) ?_
        refine va_get (D := D.1) (ci := 1) (v := .ref (aT 3)) (C := RX1) (T := TX1) (N := 7) hx hb hts wi_X1 hown X.1 X.2.1 0 rfl rfl 3 (by decide) (hts _ q1_141) (fun _ h9 => h9) (fl_get (by decide)) dX1_workTwo_82 ?_
        refine lv_iload hx hb dX1_workTwo_85 (lv_at hl 4 rfl) ?_
        obtain ⟨h_22, hF⟩ := grd_some hF
        refine va_dald (D := D.1) (f := gDA gT 3) hx hb X.1 X.2.1 2 1 rfl rfl (inB_ok h_22) dX1_workTwo_87 ?_
        refine lv_aload_n hx hb dX1_workTwo_88 rfl (lv_at hl 1 rfl) ?_
        refine va_get (D := D.1) (ci := 1) (v := .ref (aT 3)) (C := RX1) (T := TX1) (N := 7) hx hb hts wi_X1 hown X.1 X.2.1 0 rfl rfl 3 (by decide) (hts _ q1_141) (fun _ h9 => h9) (fl_get (by decide)) dX1_workTwo_89 ?_
        refine lv_iload hx hb dX1_workTwo_92 (lv_at hl 5 rfl) ?_
        obtain ⟨h_23, hF⟩ := grd_some hF
        refine va_dald (D := D.1) (f := gDA gT 3) hx hb X.1 X.2.1 2 1 rfl rfl (inB_ok h_23) dX1_workTwo_94 ?_
        obtain ⟨q_24, hc_25, hF⟩ := bnd_some hF
        refine cS_i (As := [.double (gDA gT 3 v5.toNatClampNeg), .double (gDA gT 3 v6.toNatClampNeg)]) (rest := []) C X (c_X1_orderOf l D  (gDA gT 3 v5.toNatClampNeg) (gDA gT 3 v6.toNatClampNeg) q_24 hc_25 _) (va_cwS 2 hts (good_S q5_89 q5_90 q1_4 q5_91) rfl rfl rfl (by decide +kernel) ⟨Nat.le_of_ble_eq_true rfl, Nat.le_of_ble_eq_true rfl⟩) (eK X) eP (eD (A := A)) (eF X) hl.1 rfl rfl (Nat.le_of_ble_eq_true rfl) dX1_workTwo_95 ⟨Nat.le_of_ble_eq_true rfl, Nat.le_of_ble_eq_true rfl⟩ (fun t H1 locs1 ht hB hk hS => ?_)
        have X := Hx_after_none X hk hS
        clear hk hS ht hB
        generalize H1 = H at X ⊢
        generalize locs1 = locs at X ⊢
        refine lv_goto (tgt := 118) hx hb dX1_workTwo_98 (by decide) ?_
        exact (k_X1_workTwo_118 l D hT aT yT aT_0 yT_0 n) C X (lv_sub hl [1, 2, 4] rfl) hF
set_option maxHeartbeats 4000000 in
set_option maxRecDepth 100000 in
theorem c_X1_workTwo (l : Launch) (D : Dx) (hT : Nat) (aT : Nat → Nat) (yT : Nat → ClassId) (aT_0 : Nat → Nat) (yT_0 : Nat → ClassId) (n : Nat) (gT : Gs) (gT_0 : Gs) (x0 : Int32) (x1 : Int32) (x2 : Int32) (x3 : Int32) (q : Gs) (hF : f_X1_workTwo n gT gT_0 x0 x1 x2 x3 = some q) (sz : Nat) : Met l yX1_workTwo (ws_ yX1_workTwo cX1_workTwo 10 none) R_X1_workTwo (PC D (tX1 yT ++ (tX6 yT_0)) [.ref hT, .int x0, .int x1, .int x2, .int x3] (wX1 hT aT yT gT ++ (wX6 (aT 0) aT_0 yT_0 gT_0)) sz) (QV D (va_A (wX1 hT aT yT gT ++ (wX6 (aT 0) aT_0 yT_0 gT_0)) sz) (wX1 hT aT yT q ++ (wX6 (aT 0) aT_0 yT_0 gT_0))) 0 0 (va_A (wX1 hT aT yT gT ++ (wX6 (aT 0) aT_0 yT_0 gT_0)) sz) := by
  refine Met.ofW (cc := cX1_workTwo) (maxL := 10) (ret := none) (by decide) rfl ?_
  intro p e s m args below meth c s₁ B hml hv
  obtain ⟨rfl, hsz, hP, hK, hD, hN⟩ := hv
  subst hsz
  have C : Cx p s m _ meth c cX1_workTwo none 10 RX1 lw_all := Cx_of B hml
  have X := Hx_start hP hK hD hN
  obtain ⟨hx, hb, hr, -, hown, hts, hlk⟩ := id C
  generalize va_A (wX1 hT aT yT gT ++ (wX6 (aT 0) aT_0 yT_0 gT_0)) s.heap.size = A at X ⊢
  have hl := lv_entry ([.ref hT, .int x0, .int x1, .int x2, .int x3]) (n := 10) (Nat.le_of_ble_eq_true rfl)
  rw [lg_entry_eq]
  generalize (lg_sl ([.ref hT, .int x0, .int x1, .int x2, .int x3]) ++ List.replicate (10 - (lg_sl ([.ref hT, .int x0, .int x1, .int x2, .int x3])).length) Slot.unset).toArray = ls at hl ⊢
  have hl : lv_has ls 10 [(0, .ref hT), (1, .int x0), (2, .int x1), (3, .int x2), (4, .int x3)] := hl
  unfold f_X1_workTwo at hF
  refine lv_aload_n hx hb dX1_workTwo_0 rfl (lv_at hl 0 rfl) ?_
  refine va_get (D := D.1) (ci := 1) (v := .int (gI gT 4)) (C := RX1) (T := TX1) (N := 7) hx hb hts wi_X1 hown X.1 X.2.1 0 rfl rfl 4 (by decide) (hts _ q1_143) (fun _ h9 => h9) (fl_get (by decide)) dX1_workTwo_1 ?_
  refine lv_iconst (v := (2 : Int32)) hx hb dX1_workTwo_4 (by decide) ?_
  refine lv_isub hx hb dX1_workTwo_5 ?_
  refine lv_istore (lv' := [(5, .int ((gI gT 4) - (2 : Int32))), (0, .ref hT), (1, .int x0), (2, .int x1), (3, .int x2), (4, .int x3)]) hx hb dX1_workTwo_6 hl (by decide) rfl (fun ls hl => ?_)
  refine lv_iload hx hb dX1_workTwo_8 (lv_at hl 0 rfl) ?_
  refine lv_if_ge (tgt := 14) hx hb dX1_workTwo_10 (by decide) (fun c => ?_) (fun c => ?_)
  · replace hF := iT c hF
    refine lv_aload_n hx hb dX1_workTwo_14 rfl (lv_at hl 1 rfl) ?_
    refine va_get (D := D.1) (ci := 1) (v := .int (gI gT 4)) (C := RX1) (T := TX1) (N := 7) hx hb hts wi_X1 hown X.1 X.2.1 0 rfl rfl 4 (by decide) (hts _ q1_143) (fun _ h9 => h9) (fl_get (by decide)) dX1_workTwo_15 ?_
    refine lv_iconst (v := (1 : Int32)) hx hb dX1_workTwo_18 (by decide) ?_
    refine lv_isub hx hb dX1_workTwo_19 ?_
    refine lv_istore (lv' := [(6, .int ((gI gT 4) - (1 : Int32))), (5, .int ((gI gT 4) - (2 : Int32))), (0, .ref hT), (1, .int x0), (2, .int x1), (3, .int x2), (4, .int x3)]) hx hb dX1_workTwo_20 hl (by decide) rfl (fun ls hl => ?_)
    refine lv_aload_n hx hb dX1_workTwo_22 rfl (lv_at hl 2 rfl) ?_
    refine lv_iload hx hb dX1_workTwo_23 (lv_at hl 1 rfl) ?_
    refine lv_iload_n hx hb dX1_workTwo_25 rfl (lv_at hl 4 rfl) ?_
    refine lv_iload hx hb dX1_workTwo_26 (lv_at hl 6 rfl) ?_
    obtain ⟨q_1, hc_2, hF⟩ := bnd_some hF
    refine cV_v (As := [.int ((gI gT 4) - (2 : Int32)), .int x1, .int x3]) (rest := []) C X (c_X1_become l D hT aT yT gT ((gI gT 4) - (2 : Int32)) x1 x3 q_1 hc_2 _) (cwV 3 hts (good_V q5_50 q5_52 q0_50 q1_4 q5_53) rfl rfl rfl (by decide +kernel) ⟨Nat.le_of_ble_eq_true rfl, Nat.le_of_ble_eq_true rfl⟩) (va_recv X.1 X.2.1 (ci := 1) (q0 := 0) rfl rfl) (X.1.sub (tys' := tX1 yT) [0, 1] rfl) (X.2.1.sub (ws' := wX1 hT aT yT gT) [0, 1, 2] rfl) (X.2.2.1.sub (ws' := wX1 hT aT yT gT) [0, 1, 2] (by decide) rfl) (free_of (wC := wX1 hT aT yT gT) (isC := [0, 1, 2]) X rfl) hl.1 rfl rfl (Nat.le_of_ble_eq_true rfl) dX1_workTwo_28 ⟨Nat.le_of_ble_eq_true rfl, Nat.le_of_ble_eq_true rfl⟩ (fun t H1 locs1 ht hB hk hS => ?_)
    have X : Hx D (tX1 yT ++ (tX6 yT_0)) A s H1 locs1 (wX1 hT aT yT q_1 ++ (wX6 (aT 0) aT_0 yT_0 gT_0)) := Hx_after (isC := [0, 1, 2]) (isR := [3, 4]) (pm := [2, 3, 4, 0, 1]) (wr := wX6 (aT 0) aT_0 yT_0 gT_0) X ⟨rfl, rfl, by decide, by decide, rfl, by decide⟩ ht hB hk hS
    clear hk hS ht hB
    generalize H1 = H at X ⊢
    generalize locs1 = locs at X ⊢
    refine lv_aload_n hx hb dX1_workTwo_31 rfl (lv_at hl 2 rfl) ?_
    refine lv_iload hx hb dX1_workTwo_32 (lv_at hl 0 rfl) ?_
    refine lv_iload_n hx hb dX1_workTwo_34 rfl (lv_at hl 5 rfl) ?_
    refine lv_iload hx hb dX1_workTwo_35 (lv_at hl 6 rfl) ?_
    obtain ⟨q_3, hc_4, hF⟩ := bnd_some hF
    refine cV_v (As := [.int ((gI gT 4) - (1 : Int32)), .int x2, .int x3]) (rest := []) C X (c_X1_become l D hT aT yT q_1 ((gI gT 4) - (1 : Int32)) x2 x3 q_3 hc_4 _) (cwV 3 hts (good_V q5_50 q5_52 q0_50 q1_4 q5_53) rfl rfl rfl (by decide +kernel) ⟨Nat.le_of_ble_eq_true rfl, Nat.le_of_ble_eq_true rfl⟩) (va_recv X.1 X.2.1 (ci := 1) (q0 := 0) rfl rfl) (X.1.sub (tys' := tX1 yT) [0, 1] rfl) (X.2.1.sub (ws' := wX1 hT aT yT q_1) [0, 1, 2] rfl) (X.2.2.1.sub (ws' := wX1 hT aT yT q_1) [0, 1, 2] (by decide) rfl) (free_of (wC := wX1 hT aT yT q_1) (isC := [0, 1, 2]) X rfl) hl.1 rfl rfl (Nat.le_of_ble_eq_true rfl) dX1_workTwo_37 ⟨Nat.le_of_ble_eq_true rfl, Nat.le_of_ble_eq_true rfl⟩ (fun t H1 locs1 ht hB hk hS => ?_)
    have X : Hx D (tX1 yT ++ (tX6 yT_0)) A s H1 locs1 (wX1 hT aT yT q_3 ++ (wX6 (aT 0) aT_0 yT_0 gT_0)) := Hx_after (isC := [0, 1, 2]) (isR := [3, 4]) (pm := [2, 3, 4, 0, 1]) (wr := wX6 (aT 0) aT_0 yT_0 gT_0) X ⟨rfl, rfl, by decide, by decide, rfl, by decide⟩ ht hB hk hS
    clear hk hS ht hB
    generalize H1 = H at X ⊢
    generalize locs1 = locs at X ⊢
    refine lv_aload_n hx hb dX1_workTwo_40 rfl (lv_at hl 2 rfl) ?_
    refine lv_dup hx hb dX1_workTwo_41 rfl ?_
    refine va_get (D := D.1) (ci := 1) (v := .int (gI q_3 4)) (C := RX1) (T := TX1) (N := 7) hx hb hts wi_X1 hown X.1 X.2.1 0 rfl rfl 4 (by decide) (hts _ q1_143) (fun _ h9 => h9) (fl_get (by decide)) dX1_workTwo_42 ?_
    refine lv_iconst (v := (1 : Int32)) hx hb dX1_workTwo_45 (by decide) ?_
    refine lv_isub hx hb dX1_workTwo_46 ?_
    refine va_put (D := D.1) (ci := 1) (v := .int ((gI q_3 4) - (1 : Int32))) (ty := .int) (C := RX1) (T := TX1) (N := 7) hx hb hts wi_X1 tyX1 tyX1_ok nmX1 hown X.1 X.2.1 X.2.2.1 X.2.2.2.1 0 rfl rfl 4 (by decide) (hts _ q1_143) (fun _ h9 => h9) rfl (by decide +kernel) rfl rfl (by rw [List.length_map, List.length_range]; decide) dX1_workTwo_47 (fun H locs hP hD hS => ?_)
    have X : Hx D (tX1 yT ++ (tX6 yT_0)) A s H locs (wX1 hT aT yT (sI q_3 4 ((gI q_3 4) - (1 : Int32))) ++ (wX6 (aT 0) aT_0 yT_0 gT_0)) := Hx_set X (set_l (by rw [wG_len (m := 3) rfl]; decide) (wG_sI (k := 4) rfl)) hP hD hS
    refine lv_iload hx hb dX1_workTwo_50 (lv_at hl 6 rfl) ?_
    refine lv_bipush (v := (6 : Int32)) hx hb dX1_workTwo_52 (by decide) ?_
    refine lv_icmp_lt (tgt := 61) hx hb dX1_workTwo_54 (by decide) (fun c => ?_) (fun c => ?_)
    · replace hF := iT c hF
      refine lv_iconst (v := (0 : Int32)) hx hb dX1_workTwo_61 (by decide) ?_
      exact (k_X1_workTwo_62 l D hT aT yT aT_0 yT_0 n) C X (lv_sub hl [2, 3, 6, 1, 0] rfl) hF
    · replace hF := iF c hF
      refine lv_iconst (v := (1 : Int32)) hx hb dX1_workTwo_57 (by decide) ?_
      refine lv_goto (tgt := 62) hx hb dX1_workTwo_58 (by decide) ?_
      exact (k_X1_workTwo_62 l D hT aT yT aT_0 yT_0 n) C X (lv_sub hl [2, 3, 6, 1, 0] rfl) hF
  · replace hF := iF c hF
    have hq := Option.some.inj hF
    subst hq
    exact rt_v C X dX1_workTwo_13

/-! ### X1_run -/
theorem dX1_run_0 : decode cX1_run 0 = .ok (.aload_n 0, 1) := by decide +kernel
theorem dX1_run_1 : decode cX1_run 1 = .ok (.iconst 0, 1) := by decide +kernel
theorem dX1_run_2 : decode cX1_run 2 = .ok (.putfield 19, 3) := by decide +kernel
theorem dX1_run_5 : decode cX1_run 5 = .ok (.aload_n 0, 1) := by decide +kernel
theorem dX1_run_6 : decode cX1_run 6 = .ok (.iconst 0, 1) := by decide +kernel
theorem dX1_run_7 : decode cX1_run 7 = .ok (.putfield 23, 3) := by decide +kernel
theorem dX1_run_10 : decode cX1_run 10 = .ok (.aload_n 2, 1) := by decide +kernel
theorem dX1_run_11 : decode cX1_run 11 = .ok (.iload_n 3, 1) := by decide +kernel
theorem dX1_run_12 : decode cX1_run 12 = .ok (.invokevirtual 102, 3) := by decide +kernel
theorem dX1_run_15 : decode cX1_run 15 = .ok (.istore 4, 2) := by decide +kernel
theorem dX1_run_17 : decode cX1_run 17 = .ok (.aload_n 2, 1) := by decide +kernel
theorem dX1_run_18 : decode cX1_run 18 = .ok (.iload_n 3, 1) := by decide +kernel
theorem dX1_run_19 : decode cX1_run 19 = .ok (.invokevirtual 106, 3) := by decide +kernel
theorem dX1_run_22 : decode cX1_run 22 = .ok (.istore 5, 2) := by decide +kernel
theorem dX1_run_24 : decode cX1_run 24 = .ok (.iconst 0, 1) := by decide +kernel
theorem dX1_run_25 : decode cX1_run 25 = .ok (.istore 6, 2) := by decide +kernel
theorem dX1_run_27 : decode cX1_run 27 = .ok (.iload 6, 2) := by decide +kernel
theorem dX1_run_29 : decode cX1_run 29 = .ok (.sipush 840, 3) := by decide +kernel
theorem dX1_run_32 : decode cX1_run 32 = .ok (.if_icmp .ge 526, 3) := by decide +kernel
theorem dX1_run_35 : decode cX1_run 35 = .ok (.iload 4, 2) := by decide +kernel
theorem dX1_run_37 : decode cX1_run 37 = .ok (.iload 5, 2) := by decide +kernel
theorem dX1_run_39 : decode cX1_run 39 = .ok (.if_icmp .ge 519, 3) := by decide +kernel
theorem dX1_run_42 : decode cX1_run 42 = .ok (.aload_n 0, 1) := by decide +kernel
theorem dX1_run_43 : decode cX1_run 43 = .ok (.getfield 23, 3) := by decide +kernel
theorem dX1_run_46 : decode cX1_run 46 = .ok (.ifCond .ne 512, 3) := by decide +kernel
theorem dX1_run_49 : decode cX1_run 49 = .ok (.aload_n 2, 1) := by decide +kernel
theorem dX1_run_50 : decode cX1_run 50 = .ok (.getfield 109, 3) := by decide +kernel
theorem dX1_run_53 : decode cX1_run 53 = .ok (.iload 4, 2) := by decide +kernel
theorem dX1_run_55 : decode cX1_run 55 = .ok (.iaload, 1) := by decide +kernel
theorem dX1_run_56 : decode cX1_run 56 = .ok (.istore 7, 2) := by decide +kernel
theorem dX1_run_58 : decode cX1_run 58 = .ok (.iload 4, 2) := by decide +kernel
theorem dX1_run_60 : decode cX1_run 60 = .ok (.istore 8, 2) := by decide +kernel
theorem dX1_run_62 : decode cX1_run 62 = .ok (.aload_n 0, 1) := by decide +kernel
theorem dX1_run_63 : decode cX1_run 63 = .ok (.aload_n 2, 1) := by decide +kernel
theorem dX1_run_64 : decode cX1_run 64 = .ok (.getfield 112, 3) := by decide +kernel
theorem dX1_run_67 : decode cX1_run 67 = .ok (.iload 4, 2) := by decide +kernel
theorem dX1_run_69 : decode cX1_run 69 = .ok (.iaload, 1) := by decide +kernel
theorem dX1_run_70 : decode cX1_run 70 = .ok (.putfield 26, 3) := by decide +kernel
theorem dX1_run_73 : decode cX1_run 73 = .ok (.iload 7, 2) := by decide +kernel
theorem dX1_run_75 : decode cX1_run 75 = .ok (.tableswitch 444 3 70 #[285, 444, 444, 444, 444, 444, 444, 444, 444, 444, 444, 444, 444, 336, 321, 306, 421, 421, 421, 421, 444, 444, 444, 444, 444, 444, 444, 444, 444, 444, 444, 444, 444, 444, 444, 444, 444, 444, 444, 444, 444, 376, 444, 444, 444, 444, 444, 444, 444, 444, 444, 421, 444, 444, 444, 444, 444, 444, 403, 403, 336, 406, 421, 421, 362, 362, 362, 362], 285) := by decide +kernel
theorem dX1_run_360 : decode cX1_run 360 = .ok (.aload_n 0, 1) := by decide +kernel
theorem dX1_run_361 : decode cX1_run 361 = .ok (.aload_n 2, 1) := by decide +kernel
theorem dX1_run_362 : decode cX1_run 362 = .ok (.getfield 115, 3) := by decide +kernel
theorem dX1_run_365 : decode cX1_run 365 = .ok (.iload 4, 2) := by decide +kernel
theorem dX1_run_367 : decode cX1_run 367 = .ok (.laload, 1) := by decide +kernel
theorem dX1_run_368 : decode cX1_run 368 = .ok (.aload_n 2, 1) := by decide +kernel
theorem dX1_run_369 : decode cX1_run 369 = .ok (.getfield 116, 3) := by decide +kernel
theorem dX1_run_372 : decode cX1_run 372 = .ok (.iload 4, 2) := by decide +kernel
theorem dX1_run_374 : decode cX1_run 374 = .ok (.daload, 1) := by decide +kernel
theorem dX1_run_375 : decode cX1_run 375 = .ok (.invokevirtual 117, 3) := by decide +kernel
theorem dX1_run_378 : decode cX1_run 378 = .ok (.goto 168, 3) := by decide +kernel
theorem dX1_run_381 : decode cX1_run 381 = .ok (.aload_n 0, 1) := by decide +kernel
theorem dX1_run_382 : decode cX1_run 382 = .ok (.aload_n 0, 1) := by decide +kernel
theorem dX1_run_383 : decode cX1_run 383 = .ok (.getfield 33, 3) := by decide +kernel
theorem dX1_run_386 : decode cX1_run 386 = .ok (.getfield 121, 3) := by decide +kernel
theorem dX1_run_389 : decode cX1_run 389 = .ok (.dconst 0, 1) := by decide +kernel
theorem dX1_run_390 : decode cX1_run 390 = .ok (.invokevirtual 117, 3) := by decide +kernel
theorem dX1_run_393 : decode cX1_run 393 = .ok (.goto 153, 3) := by decide +kernel
theorem dX1_run_396 : decode cX1_run 396 = .ok (.aload_n 0, 1) := by decide +kernel
theorem dX1_run_397 : decode cX1_run 397 = .ok (.lconst 0, 1) := by decide +kernel
theorem dX1_run_398 : decode cX1_run 398 = .ok (.aload_n 0, 1) := by decide +kernel
theorem dX1_run_399 : decode cX1_run 399 = .ok (.getfield 33, 3) := by decide +kernel
theorem dX1_run_402 : decode cX1_run 402 = .ok (.getfield 125, 3) := by decide +kernel
theorem dX1_run_405 : decode cX1_run 405 = .ok (.invokevirtual 117, 3) := by decide +kernel
theorem dX1_run_408 : decode cX1_run 408 = .ok (.goto 138, 3) := by decide +kernel
theorem dX1_run_411 : decode cX1_run 411 = .ok (.aload_n 0, 1) := by decide +kernel
theorem dX1_run_412 : decode cX1_run 412 = .ok (.aload_n 2, 1) := by decide +kernel
theorem dX1_run_413 : decode cX1_run 413 = .ok (.getfield 129, 3) := by decide +kernel
theorem dX1_run_416 : decode cX1_run 416 = .ok (.iload 4, 2) := by decide +kernel
theorem dX1_run_418 : decode cX1_run 418 = .ok (.iaload, 1) := by decide +kernel
theorem dX1_run_419 : decode cX1_run 419 = .ok (.iload 7, 2) := by decide +kernel
theorem dX1_run_421 : decode cX1_run 421 = .ok (.bipush 16, 2) := by decide +kernel
theorem dX1_run_423 : decode cX1_run 423 = .ok (.if_icmp .ne 7, 3) := by decide +kernel
theorem dX1_run_426 : decode cX1_run 426 = .ok (.iconst 1, 1) := by decide +kernel
theorem dX1_run_427 : decode cX1_run 427 = .ok (.goto 4, 3) := by decide +kernel
theorem dX1_run_430 : decode cX1_run 430 = .ok (.iconst 0, 1) := by decide +kernel
theorem dX1_run_431 : decode cX1_run 431 = .ok (.invokevirtual 132, 3) := by decide +kernel
theorem dX1_run_434 : decode cX1_run 434 = .ok (.goto 112, 3) := by decide +kernel
theorem dX1_run_437 : decode cX1_run 437 = .ok (.aload_n 0, 1) := by decide +kernel
theorem dX1_run_438 : decode cX1_run 438 = .ok (.aload_n 2, 1) := by decide +kernel
theorem dX1_run_439 : decode cX1_run 439 = .ok (.iload 4, 2) := by decide +kernel
theorem dX1_run_441 : decode cX1_run 441 = .ok (.iload 7, 2) := by decide +kernel
theorem dX1_run_443 : decode cX1_run 443 = .ok (.invokevirtual 136, 3) := by decide +kernel
theorem dX1_run_446 : decode cX1_run 446 = .ok (.istore 8, 2) := by decide +kernel
theorem dX1_run_448 : decode cX1_run 448 = .ok (.goto 98, 3) := by decide +kernel
theorem dX1_run_451 : decode cX1_run 451 = .ok (.aload_n 0, 1) := by decide +kernel
theorem dX1_run_452 : decode cX1_run 452 = .ok (.aload_n 0, 1) := by decide +kernel
theorem dX1_run_453 : decode cX1_run 453 = .ok (.getfield 19, 3) := by decide +kernel
theorem dX1_run_456 : decode cX1_run 456 = .ok (.iconst 1, 1) := by decide +kernel
theorem dX1_run_457 : decode cX1_run 457 = .ok (.isub, 1) := by decide +kernel
theorem dX1_run_458 : decode cX1_run 458 = .ok (.aload_n 2, 1) := by decide +kernel
theorem dX1_run_459 : decode cX1_run 459 = .ok (.getfield 140, 3) := by decide +kernel
theorem dX1_run_462 : decode cX1_run 462 = .ok (.iload 4, 2) := by decide +kernel
theorem dX1_run_464 : decode cX1_run 464 = .ok (.iaload, 1) := by decide +kernel
theorem dX1_run_465 : decode cX1_run 465 = .ok (.aload_n 2, 1) := by decide +kernel
theorem dX1_run_466 : decode cX1_run 466 = .ok (.getfield 143, 3) := by decide +kernel
theorem dX1_run_469 : decode cX1_run 469 = .ok (.iload 4, 2) := by decide +kernel
theorem dX1_run_471 : decode cX1_run 471 = .ok (.iaload, 1) := by decide +kernel
theorem dX1_run_472 : decode cX1_run 472 = .ok (.invokevirtual 99, 3) := by decide +kernel
theorem dX1_run_475 : decode cX1_run 475 = .ok (.goto 71, 3) := by decide +kernel
theorem dX1_run_478 : decode cX1_run 478 = .ok (.goto 68, 3) := by decide +kernel
theorem dX1_run_481 : decode cX1_run 481 = .ok (.aload_n 0, 1) := by decide +kernel
theorem dX1_run_482 : decode cX1_run 482 = .ok (.aload_n 1, 1) := by decide +kernel
theorem dX1_run_483 : decode cX1_run 483 = .ok (.aload_n 2, 1) := by decide +kernel
theorem dX1_run_484 : decode cX1_run 484 = .ok (.getfield 129, 3) := by decide +kernel
theorem dX1_run_487 : decode cX1_run 487 = .ok (.iload 4, 2) := by decide +kernel
theorem dX1_run_489 : decode cX1_run 489 = .ok (.iaload, 1) := by decide +kernel
theorem dX1_run_490 : decode cX1_run 490 = .ok (.invokevirtual 146, 3) := by decide +kernel
theorem dX1_run_493 : decode cX1_run 493 = .ok (.goto 53, 3) := by decide +kernel
theorem dX1_run_496 : decode cX1_run 496 = .ok (.aload_n 0, 1) := by decide +kernel
theorem dX1_run_497 : decode cX1_run 497 = .ok (.iload 7, 2) := by decide +kernel
theorem dX1_run_499 : decode cX1_run 499 = .ok (.aload_n 2, 1) := by decide +kernel
theorem dX1_run_500 : decode cX1_run 500 = .ok (.getfield 150, 3) := by decide +kernel
theorem dX1_run_503 : decode cX1_run 503 = .ok (.iload 4, 2) := by decide +kernel
theorem dX1_run_505 : decode cX1_run 505 = .ok (.iaload, 1) := by decide +kernel
theorem dX1_run_506 : decode cX1_run 506 = .ok (.aload_n 2, 1) := by decide +kernel
theorem dX1_run_507 : decode cX1_run 507 = .ok (.getfield 143, 3) := by decide +kernel
theorem dX1_run_510 : decode cX1_run 510 = .ok (.iload 4, 2) := by decide +kernel
theorem dX1_run_512 : decode cX1_run 512 = .ok (.iaload, 1) := by decide +kernel
theorem dX1_run_513 : decode cX1_run 513 = .ok (.invokevirtual 153, 3) := by decide +kernel
theorem dX1_run_516 : decode cX1_run 516 = .ok (.goto 30, 3) := by decide +kernel
theorem dX1_run_519 : decode cX1_run 519 = .ok (.aload_n 0, 1) := by decide +kernel
theorem dX1_run_520 : decode cX1_run 520 = .ok (.iload 7, 2) := by decide +kernel
theorem dX1_run_522 : decode cX1_run 522 = .ok (.aload_n 2, 1) := by decide +kernel
theorem dX1_run_523 : decode cX1_run 523 = .ok (.getfield 150, 3) := by decide +kernel
theorem dX1_run_526 : decode cX1_run 526 = .ok (.iload 4, 2) := by decide +kernel
theorem dX1_run_528 : decode cX1_run 528 = .ok (.iaload, 1) := by decide +kernel
theorem dX1_run_529 : decode cX1_run 529 = .ok (.aload_n 2, 1) := by decide +kernel
theorem dX1_run_530 : decode cX1_run 530 = .ok (.getfield 140, 3) := by decide +kernel
theorem dX1_run_533 : decode cX1_run 533 = .ok (.iload 4, 2) := by decide +kernel
theorem dX1_run_535 : decode cX1_run 535 = .ok (.iaload, 1) := by decide +kernel
theorem dX1_run_536 : decode cX1_run 536 = .ok (.aload_n 2, 1) := by decide +kernel
theorem dX1_run_537 : decode cX1_run 537 = .ok (.getfield 143, 3) := by decide +kernel
theorem dX1_run_540 : decode cX1_run 540 = .ok (.iload 4, 2) := by decide +kernel
theorem dX1_run_542 : decode cX1_run 542 = .ok (.iaload, 1) := by decide +kernel
theorem dX1_run_543 : decode cX1_run 543 = .ok (.invokevirtual 156, 3) := by decide +kernel
theorem dX1_run_546 : decode cX1_run 546 = .ok (.iload 8, 2) := by decide +kernel
theorem dX1_run_548 : decode cX1_run 548 = .ok (.iconst 1, 1) := by decide +kernel
theorem dX1_run_549 : decode cX1_run 549 = .ok (.iadd, 1) := by decide +kernel
theorem dX1_run_550 : decode cX1_run 550 = .ok (.istore 4, 2) := by decide +kernel
theorem dX1_run_552 : decode cX1_run 552 = .ok (.iinc 6 1, 3) := by decide +kernel
theorem dX1_run_555 : decode cX1_run 555 = .ok (.goto (-528), 3) := by decide +kernel
theorem dX1_run_558 : decode cX1_run 558 = .ok (.aload_n 0, 1) := by decide +kernel
theorem dX1_run_559 : decode cX1_run 559 = .ok (.getfield 23, 3) := by decide +kernel
theorem dX1_run_562 : decode cX1_run 562 = .ok (.ifCond .ne 7, 3) := by decide +kernel
theorem dX1_run_565 : decode cX1_run 565 = .ok (.iconst 1, 1) := by decide +kernel
theorem dX1_run_566 : decode cX1_run 566 = .ok (.goto 4, 3) := by decide +kernel
theorem dX1_run_569 : decode cX1_run 569 = .ok (.iconst 0, 1) := by decide +kernel
theorem dX1_run_570 : decode cX1_run 570 = .ok (.ireturn, 1) := by decide +kernel
abbrev R_X1_run : Room := ({ frames := 5, cells := 0, slots := 0, locals := 188 } : Room)
def b_X1_run_558 (n : Nat) (rec : (Gs → Gs → Gs → Gs → Gs → Int32 → Int32 → Int32 → Option (Int32 × Gs))) (gT : Gs) (gT_0 : Gs) (gT_1 : Gs) (gP0 : Gs) (gP1 : Gs) : Option (Int32 × Gs) :=
  if (gI gT 5) = 0 then (some ((1 : Int32), gT)) else (some ((0 : Int32), gT))
def b_X1_run_546 (n : Nat) (rec : (Gs → Gs → Gs → Gs → Gs → Int32 → Int32 → Int32 → Option (Int32 × Gs))) (gT : Gs) (gT_0 : Gs) (gT_1 : Gs) (gP0 : Gs) (gP1 : Gs) (v5 : Int32) (v6 : Int32) (v8 : Int32) : Option (Int32 × Gs) :=
  rec gT gT_0 gT_1 gP0 gP1 (v8 + (1 : Int32)) v5 (v6 + (1 : Int32))
def b_X1_run_519 (n : Nat) (rec : (Gs → Gs → Gs → Gs → Gs → Int32 → Int32 → Int32 → Option (Int32 × Gs))) (gT : Gs) (gT_0 : Gs) (gT_1 : Gs) (gP0 : Gs) (gP1 : Gs) (v4 : Int32) (v5 : Int32) (v6 : Int32) (v7 : Int32) (v8 : Int32) : Option (Int32 × Gs) :=
  grd (inB v4 840) (grd (inB v4 840) (grd (inB v4 840) (bnd (f_X1_workTwo n gT gT_0 v7 (gIA gP1 3 v4.toNatClampNeg) (gIA gP1 4 v4.toNatClampNeg) (gIA gP1 2 v4.toNatClampNeg)) (fun q_14 => b_X1_run_546 n rec q_14 gT_0 gT_1 gP0 gP1 v5 v6 v8))))
def b_X1_run_431 (n : Nat) (rec : (Gs → Gs → Gs → Gs → Gs → Int32 → Int32 → Int32 → Option (Int32 × Gs))) (gT : Gs) (gT_0 : Gs) (gT_1 : Gs) (gP0 : Gs) (gP1 : Gs) (v5 : Int32) (v6 : Int32) (v8 : Int32) (s0 : Int32) (s1 : Int32) : Option (Int32 × Gs) :=
  bnd (f_X1_pushThing gT gT_1 s1 s0) (fun q_17 => b_X1_run_546 n rec q_17 gT_0 gT_1 gP0 gP1 v5 v6 v8)
def b_X1_run_411 (n : Nat) (rec : (Gs → Gs → Gs → Gs → Gs → Int32 → Int32 → Int32 → Option (Int32 × Gs))) (gT : Gs) (gT_0 : Gs) (gT_1 : Gs) (gP0 : Gs) (gP1 : Gs) (v4 : Int32) (v5 : Int32) (v6 : Int32) (v7 : Int32) (v8 : Int32) : Option (Int32 × Gs) :=
  grd (inB v4 840) (if v7 = (16 : Int32) then (b_X1_run_431 n rec gT gT_0 gT_1 gP0 gP1 v5 v6 v8 (1 : Int32) (gIA gP1 5 v4.toNatClampNeg)) else (b_X1_run_431 n rec gT gT_0 gT_1 gP0 gP1 v5 v6 v8 (0 : Int32) (gIA gP1 5 v4.toNatClampNeg)))
def b_X1_run_496 (n : Nat) (rec : (Gs → Gs → Gs → Gs → Gs → Int32 → Int32 → Int32 → Option (Int32 × Gs))) (gT : Gs) (gT_0 : Gs) (gT_1 : Gs) (gP0 : Gs) (gP1 : Gs) (v4 : Int32) (v5 : Int32) (v6 : Int32) (v7 : Int32) (v8 : Int32) : Option (Int32 × Gs) :=
  grd (inB v4 840) (grd (inB v4 840) (bnd (f_X1_workOne gT v7 (gIA gP1 3 v4.toNatClampNeg) (gIA gP1 2 v4.toNatClampNeg)) (fun q_25 => b_X1_run_546 n rec q_25 gT_0 gT_1 gP0 gP1 v5 v6 v8)))
def b_X1_run_478 (n : Nat) (rec : (Gs → Gs → Gs → Gs → Gs → Int32 → Int32 → Int32 → Option (Int32 × Gs))) (gT : Gs) (gT_0 : Gs) (gT_1 : Gs) (gP0 : Gs) (gP1 : Gs) (v5 : Int32) (v6 : Int32) (v8 : Int32) : Option (Int32 × Gs) :=
  b_X1_run_546 n rec gT gT_0 gT_1 gP0 gP1 v5 v6 v8
def b_X1_run_437 (n : Nat) (rec : (Gs → Gs → Gs → Gs → Gs → Int32 → Int32 → Int32 → Option (Int32 × Gs))) (gT : Gs) (gT_0 : Gs) (gT_1 : Gs) (gP0 : Gs) (gP1 : Gs) (v4 : Int32) (v5 : Int32) (v6 : Int32) (v7 : Int32) : Option (Int32 × Gs) :=
  bnd (f_X1_skip gT gP1 v4 v7) (fun q_34 => b_X1_run_546 n rec q_34.2 gT_0 gT_1 gP0 gP1 v5 v6 q_34.1)
def h_X1_run_27 (n : Nat) (rec : (Gs → Gs → Gs → Gs → Gs → Int32 → Int32 → Int32 → Option (Int32 × Gs))) (gT : Gs) (gT_0 : Gs) (gT_1 : Gs) (gP0 : Gs) (gP1 : Gs) (v4 : Int32) (v5 : Int32) (v6 : Int32) : Option (Int32 × Gs) :=
  if (840 : Int32) ≤ v6 then (b_X1_run_558 n rec gT gT_0 gT_1 gP0 gP1) else (if v5 ≤ v4 then (b_X1_run_558 n rec gT gT_0 gT_1 gP0 gP1) else (if (gI gT 5) = 0 then (grd (inB v4 840) (grd (inB v4 840) (if (gIA gP1 0 v4.toNatClampNeg) = (3 : Int32) then (grd (inB v4 840) (grd (inB v4 840) (bnd (f_X1_push (sI gT 6 (gIA gP1 1 v4.toNatClampNeg)) (gLA gP1 6 v4.toNatClampNeg) (gDA gP1 7 v4.toNatClampNeg)) (fun q_9 => b_X1_run_546 n rec q_9 gT_0 gT_1 gP0 gP1 v5 v6 v4)))) else (if (gIA gP1 0 v4.toNatClampNeg) = (4 : Int32) then (b_X1_run_519 n rec (sI gT 6 (gIA gP1 1 v4.toNatClampNeg)) gT_0 gT_1 gP0 gP1 v4 v5 v6 (gIA gP1 0 v4.toNatClampNeg) v4) else (if (gIA gP1 0 v4.toNatClampNeg) = (5 : Int32) then (b_X1_run_519 n rec (sI gT 6 (gIA gP1 1 v4.toNatClampNeg)) gT_0 gT_1 gP0 gP1 v4 v5 v6 (gIA gP1 0 v4.toNatClampNeg) v4) else (if (gIA gP1 0 v4.toNatClampNeg) = (6 : Int32) then (b_X1_run_519 n rec (sI gT 6 (gIA gP1 1 v4.toNatClampNeg)) gT_0 gT_1 gP0 gP1 v4 v5 v6 (gIA gP1 0 v4.toNatClampNeg) v4) else (if (gIA gP1 0 v4.toNatClampNeg) = (7 : Int32) then (b_X1_run_519 n rec (sI gT 6 (gIA gP1 1 v4.toNatClampNeg)) gT_0 gT_1 gP0 gP1 v4 v5 v6 (gIA gP1 0 v4.toNatClampNeg) v4) else (if (gIA gP1 0 v4.toNatClampNeg) = (8 : Int32) then (b_X1_run_519 n rec (sI gT 6 (gIA gP1 1 v4.toNatClampNeg)) gT_0 gT_1 gP0 gP1 v4 v5 v6 (gIA gP1 0 v4.toNatClampNeg) v4) else (if (gIA gP1 0 v4.toNatClampNeg) = (9 : Int32) then (b_X1_run_519 n rec (sI gT 6 (gIA gP1 1 v4.toNatClampNeg)) gT_0 gT_1 gP0 gP1 v4 v5 v6 (gIA gP1 0 v4.toNatClampNeg) v4) else (if (gIA gP1 0 v4.toNatClampNeg) = (10 : Int32) then (b_X1_run_519 n rec (sI gT 6 (gIA gP1 1 v4.toNatClampNeg)) gT_0 gT_1 gP0 gP1 v4 v5 v6 (gIA gP1 0 v4.toNatClampNeg) v4) else (if (gIA gP1 0 v4.toNatClampNeg) = (11 : Int32) then (b_X1_run_519 n rec (sI gT 6 (gIA gP1 1 v4.toNatClampNeg)) gT_0 gT_1 gP0 gP1 v4 v5 v6 (gIA gP1 0 v4.toNatClampNeg) v4) else (if (gIA gP1 0 v4.toNatClampNeg) = (12 : Int32) then (b_X1_run_519 n rec (sI gT 6 (gIA gP1 1 v4.toNatClampNeg)) gT_0 gT_1 gP0 gP1 v4 v5 v6 (gIA gP1 0 v4.toNatClampNeg) v4) else (if (gIA gP1 0 v4.toNatClampNeg) = (13 : Int32) then (b_X1_run_519 n rec (sI gT 6 (gIA gP1 1 v4.toNatClampNeg)) gT_0 gT_1 gP0 gP1 v4 v5 v6 (gIA gP1 0 v4.toNatClampNeg) v4) else (if (gIA gP1 0 v4.toNatClampNeg) = (14 : Int32) then (b_X1_run_519 n rec (sI gT 6 (gIA gP1 1 v4.toNatClampNeg)) gT_0 gT_1 gP0 gP1 v4 v5 v6 (gIA gP1 0 v4.toNatClampNeg) v4) else (if (gIA gP1 0 v4.toNatClampNeg) = (15 : Int32) then (b_X1_run_519 n rec (sI gT 6 (gIA gP1 1 v4.toNatClampNeg)) gT_0 gT_1 gP0 gP1 v4 v5 v6 (gIA gP1 0 v4.toNatClampNeg) v4) else (if (gIA gP1 0 v4.toNatClampNeg) = (16 : Int32) then (b_X1_run_411 n rec (sI gT 6 (gIA gP1 1 v4.toNatClampNeg)) gT_0 gT_1 gP0 gP1 v4 v5 v6 (gIA gP1 0 v4.toNatClampNeg) v4) else (if (gIA gP1 0 v4.toNatClampNeg) = (17 : Int32) then (bnd (f_X1_push (sI gT 6 (gIA gP1 1 v4.toNatClampNeg)) (0 : Int64) (gD gT_1 15)) (fun q_19 => b_X1_run_546 n rec q_19 gT_0 gT_1 gP0 gP1 v5 v6 v4)) else (if (gIA gP1 0 v4.toNatClampNeg) = (18 : Int32) then (bnd (f_X1_push (sI gT 6 (gIA gP1 1 v4.toNatClampNeg)) (gL gT_1 14) FP.dconst0) (fun q_21 => b_X1_run_546 n rec q_21 gT_0 gT_1 gP0 gP1 v5 v6 v4)) else (if (gIA gP1 0 v4.toNatClampNeg) = (19 : Int32) then (b_X1_run_496 n rec (sI gT 6 (gIA gP1 1 v4.toNatClampNeg)) gT_0 gT_1 gP0 gP1 v4 v5 v6 (gIA gP1 0 v4.toNatClampNeg) v4) else (if (gIA gP1 0 v4.toNatClampNeg) = (20 : Int32) then (b_X1_run_496 n rec (sI gT 6 (gIA gP1 1 v4.toNatClampNeg)) gT_0 gT_1 gP0 gP1 v4 v5 v6 (gIA gP1 0 v4.toNatClampNeg) v4) else (if (gIA gP1 0 v4.toNatClampNeg) = (21 : Int32) then (b_X1_run_496 n rec (sI gT 6 (gIA gP1 1 v4.toNatClampNeg)) gT_0 gT_1 gP0 gP1 v4 v5 v6 (gIA gP1 0 v4.toNatClampNeg) v4) else (if (gIA gP1 0 v4.toNatClampNeg) = (22 : Int32) then (b_X1_run_496 n rec (sI gT 6 (gIA gP1 1 v4.toNatClampNeg)) gT_0 gT_1 gP0 gP1 v4 v5 v6 (gIA gP1 0 v4.toNatClampNeg) v4) else (if (gIA gP1 0 v4.toNatClampNeg) = (23 : Int32) then (b_X1_run_519 n rec (sI gT 6 (gIA gP1 1 v4.toNatClampNeg)) gT_0 gT_1 gP0 gP1 v4 v5 v6 (gIA gP1 0 v4.toNatClampNeg) v4) else (if (gIA gP1 0 v4.toNatClampNeg) = (24 : Int32) then (b_X1_run_519 n rec (sI gT 6 (gIA gP1 1 v4.toNatClampNeg)) gT_0 gT_1 gP0 gP1 v4 v5 v6 (gIA gP1 0 v4.toNatClampNeg) v4) else (if (gIA gP1 0 v4.toNatClampNeg) = (25 : Int32) then (b_X1_run_519 n rec (sI gT 6 (gIA gP1 1 v4.toNatClampNeg)) gT_0 gT_1 gP0 gP1 v4 v5 v6 (gIA gP1 0 v4.toNatClampNeg) v4) else (if (gIA gP1 0 v4.toNatClampNeg) = (26 : Int32) then (b_X1_run_519 n rec (sI gT 6 (gIA gP1 1 v4.toNatClampNeg)) gT_0 gT_1 gP0 gP1 v4 v5 v6 (gIA gP1 0 v4.toNatClampNeg) v4) else (if (gIA gP1 0 v4.toNatClampNeg) = (27 : Int32) then (b_X1_run_519 n rec (sI gT 6 (gIA gP1 1 v4.toNatClampNeg)) gT_0 gT_1 gP0 gP1 v4 v5 v6 (gIA gP1 0 v4.toNatClampNeg) v4) else (if (gIA gP1 0 v4.toNatClampNeg) = (28 : Int32) then (b_X1_run_519 n rec (sI gT 6 (gIA gP1 1 v4.toNatClampNeg)) gT_0 gT_1 gP0 gP1 v4 v5 v6 (gIA gP1 0 v4.toNatClampNeg) v4) else (if (gIA gP1 0 v4.toNatClampNeg) = (29 : Int32) then (b_X1_run_519 n rec (sI gT 6 (gIA gP1 1 v4.toNatClampNeg)) gT_0 gT_1 gP0 gP1 v4 v5 v6 (gIA gP1 0 v4.toNatClampNeg) v4) else (if (gIA gP1 0 v4.toNatClampNeg) = (30 : Int32) then (b_X1_run_519 n rec (sI gT 6 (gIA gP1 1 v4.toNatClampNeg)) gT_0 gT_1 gP0 gP1 v4 v5 v6 (gIA gP1 0 v4.toNatClampNeg) v4) else (if (gIA gP1 0 v4.toNatClampNeg) = (31 : Int32) then (b_X1_run_519 n rec (sI gT 6 (gIA gP1 1 v4.toNatClampNeg)) gT_0 gT_1 gP0 gP1 v4 v5 v6 (gIA gP1 0 v4.toNatClampNeg) v4) else (if (gIA gP1 0 v4.toNatClampNeg) = (32 : Int32) then (b_X1_run_519 n rec (sI gT 6 (gIA gP1 1 v4.toNatClampNeg)) gT_0 gT_1 gP0 gP1 v4 v5 v6 (gIA gP1 0 v4.toNatClampNeg) v4) else (if (gIA gP1 0 v4.toNatClampNeg) = (33 : Int32) then (b_X1_run_519 n rec (sI gT 6 (gIA gP1 1 v4.toNatClampNeg)) gT_0 gT_1 gP0 gP1 v4 v5 v6 (gIA gP1 0 v4.toNatClampNeg) v4) else (if (gIA gP1 0 v4.toNatClampNeg) = (34 : Int32) then (b_X1_run_519 n rec (sI gT 6 (gIA gP1 1 v4.toNatClampNeg)) gT_0 gT_1 gP0 gP1 v4 v5 v6 (gIA gP1 0 v4.toNatClampNeg) v4) else (if (gIA gP1 0 v4.toNatClampNeg) = (35 : Int32) then (b_X1_run_519 n rec (sI gT 6 (gIA gP1 1 v4.toNatClampNeg)) gT_0 gT_1 gP0 gP1 v4 v5 v6 (gIA gP1 0 v4.toNatClampNeg) v4) else (if (gIA gP1 0 v4.toNatClampNeg) = (36 : Int32) then (b_X1_run_519 n rec (sI gT 6 (gIA gP1 1 v4.toNatClampNeg)) gT_0 gT_1 gP0 gP1 v4 v5 v6 (gIA gP1 0 v4.toNatClampNeg) v4) else (if (gIA gP1 0 v4.toNatClampNeg) = (37 : Int32) then (b_X1_run_519 n rec (sI gT 6 (gIA gP1 1 v4.toNatClampNeg)) gT_0 gT_1 gP0 gP1 v4 v5 v6 (gIA gP1 0 v4.toNatClampNeg) v4) else (if (gIA gP1 0 v4.toNatClampNeg) = (38 : Int32) then (b_X1_run_519 n rec (sI gT 6 (gIA gP1 1 v4.toNatClampNeg)) gT_0 gT_1 gP0 gP1 v4 v5 v6 (gIA gP1 0 v4.toNatClampNeg) v4) else (if (gIA gP1 0 v4.toNatClampNeg) = (39 : Int32) then (b_X1_run_519 n rec (sI gT 6 (gIA gP1 1 v4.toNatClampNeg)) gT_0 gT_1 gP0 gP1 v4 v5 v6 (gIA gP1 0 v4.toNatClampNeg) v4) else (if (gIA gP1 0 v4.toNatClampNeg) = (40 : Int32) then (b_X1_run_519 n rec (sI gT 6 (gIA gP1 1 v4.toNatClampNeg)) gT_0 gT_1 gP0 gP1 v4 v5 v6 (gIA gP1 0 v4.toNatClampNeg) v4) else (if (gIA gP1 0 v4.toNatClampNeg) = (41 : Int32) then (b_X1_run_519 n rec (sI gT 6 (gIA gP1 1 v4.toNatClampNeg)) gT_0 gT_1 gP0 gP1 v4 v5 v6 (gIA gP1 0 v4.toNatClampNeg) v4) else (if (gIA gP1 0 v4.toNatClampNeg) = (42 : Int32) then (b_X1_run_519 n rec (sI gT 6 (gIA gP1 1 v4.toNatClampNeg)) gT_0 gT_1 gP0 gP1 v4 v5 v6 (gIA gP1 0 v4.toNatClampNeg) v4) else (if (gIA gP1 0 v4.toNatClampNeg) = (43 : Int32) then (b_X1_run_519 n rec (sI gT 6 (gIA gP1 1 v4.toNatClampNeg)) gT_0 gT_1 gP0 gP1 v4 v5 v6 (gIA gP1 0 v4.toNatClampNeg) v4) else (if (gIA gP1 0 v4.toNatClampNeg) = (44 : Int32) then (grd (inB v4 840) (grd (inB v4 840) (bnd (f_X1_become (sI gT 6 (gIA gP1 1 v4.toNatClampNeg)) ((gI gT 4) - (1 : Int32)) (gIA gP1 4 v4.toNatClampNeg) (gIA gP1 2 v4.toNatClampNeg)) (fun q_29 => b_X1_run_546 n rec q_29 gT_0 gT_1 gP0 gP1 v5 v6 v4)))) else (if (gIA gP1 0 v4.toNatClampNeg) = (45 : Int32) then (b_X1_run_519 n rec (sI gT 6 (gIA gP1 1 v4.toNatClampNeg)) gT_0 gT_1 gP0 gP1 v4 v5 v6 (gIA gP1 0 v4.toNatClampNeg) v4) else (if (gIA gP1 0 v4.toNatClampNeg) = (46 : Int32) then (b_X1_run_519 n rec (sI gT 6 (gIA gP1 1 v4.toNatClampNeg)) gT_0 gT_1 gP0 gP1 v4 v5 v6 (gIA gP1 0 v4.toNatClampNeg) v4) else (if (gIA gP1 0 v4.toNatClampNeg) = (47 : Int32) then (b_X1_run_519 n rec (sI gT 6 (gIA gP1 1 v4.toNatClampNeg)) gT_0 gT_1 gP0 gP1 v4 v5 v6 (gIA gP1 0 v4.toNatClampNeg) v4) else (if (gIA gP1 0 v4.toNatClampNeg) = (48 : Int32) then (b_X1_run_519 n rec (sI gT 6 (gIA gP1 1 v4.toNatClampNeg)) gT_0 gT_1 gP0 gP1 v4 v5 v6 (gIA gP1 0 v4.toNatClampNeg) v4) else (if (gIA gP1 0 v4.toNatClampNeg) = (49 : Int32) then (b_X1_run_519 n rec (sI gT 6 (gIA gP1 1 v4.toNatClampNeg)) gT_0 gT_1 gP0 gP1 v4 v5 v6 (gIA gP1 0 v4.toNatClampNeg) v4) else (if (gIA gP1 0 v4.toNatClampNeg) = (50 : Int32) then (b_X1_run_519 n rec (sI gT 6 (gIA gP1 1 v4.toNatClampNeg)) gT_0 gT_1 gP0 gP1 v4 v5 v6 (gIA gP1 0 v4.toNatClampNeg) v4) else (if (gIA gP1 0 v4.toNatClampNeg) = (51 : Int32) then (b_X1_run_519 n rec (sI gT 6 (gIA gP1 1 v4.toNatClampNeg)) gT_0 gT_1 gP0 gP1 v4 v5 v6 (gIA gP1 0 v4.toNatClampNeg) v4) else (if (gIA gP1 0 v4.toNatClampNeg) = (52 : Int32) then (b_X1_run_519 n rec (sI gT 6 (gIA gP1 1 v4.toNatClampNeg)) gT_0 gT_1 gP0 gP1 v4 v5 v6 (gIA gP1 0 v4.toNatClampNeg) v4) else (if (gIA gP1 0 v4.toNatClampNeg) = (53 : Int32) then (b_X1_run_519 n rec (sI gT 6 (gIA gP1 1 v4.toNatClampNeg)) gT_0 gT_1 gP0 gP1 v4 v5 v6 (gIA gP1 0 v4.toNatClampNeg) v4) else (if (gIA gP1 0 v4.toNatClampNeg) = (54 : Int32) then (b_X1_run_496 n rec (sI gT 6 (gIA gP1 1 v4.toNatClampNeg)) gT_0 gT_1 gP0 gP1 v4 v5 v6 (gIA gP1 0 v4.toNatClampNeg) v4) else (if (gIA gP1 0 v4.toNatClampNeg) = (55 : Int32) then (b_X1_run_519 n rec (sI gT 6 (gIA gP1 1 v4.toNatClampNeg)) gT_0 gT_1 gP0 gP1 v4 v5 v6 (gIA gP1 0 v4.toNatClampNeg) v4) else (if (gIA gP1 0 v4.toNatClampNeg) = (56 : Int32) then (b_X1_run_519 n rec (sI gT 6 (gIA gP1 1 v4.toNatClampNeg)) gT_0 gT_1 gP0 gP1 v4 v5 v6 (gIA gP1 0 v4.toNatClampNeg) v4) else (if (gIA gP1 0 v4.toNatClampNeg) = (57 : Int32) then (b_X1_run_519 n rec (sI gT 6 (gIA gP1 1 v4.toNatClampNeg)) gT_0 gT_1 gP0 gP1 v4 v5 v6 (gIA gP1 0 v4.toNatClampNeg) v4) else (if (gIA gP1 0 v4.toNatClampNeg) = (58 : Int32) then (b_X1_run_519 n rec (sI gT 6 (gIA gP1 1 v4.toNatClampNeg)) gT_0 gT_1 gP0 gP1 v4 v5 v6 (gIA gP1 0 v4.toNatClampNeg) v4) else (if (gIA gP1 0 v4.toNatClampNeg) = (59 : Int32) then (b_X1_run_519 n rec (sI gT 6 (gIA gP1 1 v4.toNatClampNeg)) gT_0 gT_1 gP0 gP1 v4 v5 v6 (gIA gP1 0 v4.toNatClampNeg) v4) else (if (gIA gP1 0 v4.toNatClampNeg) = (60 : Int32) then (b_X1_run_519 n rec (sI gT 6 (gIA gP1 1 v4.toNatClampNeg)) gT_0 gT_1 gP0 gP1 v4 v5 v6 (gIA gP1 0 v4.toNatClampNeg) v4) else (if (gIA gP1 0 v4.toNatClampNeg) = (61 : Int32) then (b_X1_run_478 n rec (sI gT 6 (gIA gP1 1 v4.toNatClampNeg)) gT_0 gT_1 gP0 gP1 v5 v6 v4) else (if (gIA gP1 0 v4.toNatClampNeg) = (62 : Int32) then (b_X1_run_478 n rec (sI gT 6 (gIA gP1 1 v4.toNatClampNeg)) gT_0 gT_1 gP0 gP1 v5 v6 v4) else (if (gIA gP1 0 v4.toNatClampNeg) = (63 : Int32) then (b_X1_run_411 n rec (sI gT 6 (gIA gP1 1 v4.toNatClampNeg)) gT_0 gT_1 gP0 gP1 v4 v5 v6 (gIA gP1 0 v4.toNatClampNeg) v4) else (if (gIA gP1 0 v4.toNatClampNeg) = (64 : Int32) then (grd (inB v4 840) (bnd (f_X1_takeTooth (sI gT 6 (gIA gP1 1 v4.toNatClampNeg)) gP0 (gIA gP1 5 v4.toNatClampNeg)) (fun q_32 => b_X1_run_546 n rec q_32 gT_0 gT_1 gP0 gP1 v5 v6 v4))) else (if (gIA gP1 0 v4.toNatClampNeg) = (65 : Int32) then (b_X1_run_496 n rec (sI gT 6 (gIA gP1 1 v4.toNatClampNeg)) gT_0 gT_1 gP0 gP1 v4 v5 v6 (gIA gP1 0 v4.toNatClampNeg) v4) else (if (gIA gP1 0 v4.toNatClampNeg) = (66 : Int32) then (b_X1_run_496 n rec (sI gT 6 (gIA gP1 1 v4.toNatClampNeg)) gT_0 gT_1 gP0 gP1 v4 v5 v6 (gIA gP1 0 v4.toNatClampNeg) v4) else (if (gIA gP1 0 v4.toNatClampNeg) = (67 : Int32) then (b_X1_run_437 n rec (sI gT 6 (gIA gP1 1 v4.toNatClampNeg)) gT_0 gT_1 gP0 gP1 v4 v5 v6 (gIA gP1 0 v4.toNatClampNeg)) else (if (gIA gP1 0 v4.toNatClampNeg) = (68 : Int32) then (b_X1_run_437 n rec (sI gT 6 (gIA gP1 1 v4.toNatClampNeg)) gT_0 gT_1 gP0 gP1 v4 v5 v6 (gIA gP1 0 v4.toNatClampNeg)) else (if (gIA gP1 0 v4.toNatClampNeg) = (69 : Int32) then (b_X1_run_437 n rec (sI gT 6 (gIA gP1 1 v4.toNatClampNeg)) gT_0 gT_1 gP0 gP1 v4 v5 v6 (gIA gP1 0 v4.toNatClampNeg)) else (if (gIA gP1 0 v4.toNatClampNeg) = (70 : Int32) then (b_X1_run_437 n rec (sI gT 6 (gIA gP1 1 v4.toNatClampNeg)) gT_0 gT_1 gP0 gP1 v4 v5 v6 (gIA gP1 0 v4.toNatClampNeg)) else (b_X1_run_519 n rec (sI gT 6 (gIA gP1 1 v4.toNatClampNeg)) gT_0 gT_1 gP0 gP1 v4 v5 v6 (gIA gP1 0 v4.toNatClampNeg) v4))))))))))))))))))))))))))))))))))))))))))))))))))))))))))))))))))))))) else (b_X1_run_558 n rec gT gT_0 gT_1 gP0 gP1)))
def L_X1_run (n : Nat) : Nat → (Gs → Gs → Gs → Gs → Gs → Int32 → Int32 → Int32 → Option (Int32 × Gs))
  | 0 => ((fun _ _ _ _ _ _ _ _ => none))
  | k + 1 => (h_X1_run_27 n (L_X1_run n k))
def f_X1_run (n : Nat) (gT : Gs) (gT_0 : Gs) (gT_1 : Gs) (gP0 : Gs) (gP1 : Gs) (x2 : Int32) : Option (Int32 × Gs) :=
  bnd (f_X0_beginOf gP1 x2) (fun q_1 => bnd (f_X0_endOf gP1 x2) (fun q_3 => (L_X1_run n n) (sI (sI gT 4 (0 : Int32)) 5 (0 : Int32)) gT_0 gT_1 gP0 gP1 q_1 q_3 (0 : Int32)))
def S_X1_run_558 (l : Launch) (D : Dx) (hT : Nat) (aT : Nat → Nat) (yT : Nat → ClassId) (aT_0 : Nat → Nat) (yT_0 : Nat → ClassId) (aT_1 : Nat → Nat) (yT_1 : Nat → ClassId) (hP0 : Nat) (aP0 : Nat → Nat) (yP0 : Nat → ClassId) (hP1 : Nat) (aP1 : Nat → Nat) (yP1 : Nat → ClassId) (fn : Gs → Gs → Gs → Gs → Gs → Option (Int32 × Gs)) : Prop :=
  ∀ {p : Program} {e : Env} {s : State} {m : MethodId} {args : Array Value} {below : List Frame} {meth : Method} {c : Code} {H : Heap} {locs : List Loc} {A : Nat → Prop} {ls : Array Slot} {gT : Gs} {gT_0 : Gs} {gT_1 : Gs} {gP0 : Gs} {gP1 : Gs} {q : Int32 × Gs}, Cx p s m args meth c cX1_run (some .boolean) 9 RX1 lw_all → Hx D (tX1 yT ++ (tX6 yT_0 ++ (tX9 yT_1 ++ (tX4 yP0 ++ (tX0 yP1))))) A s H locs (wX1 hT aT yT gT ++ (wX6 (aT 0) aT_0 yT_0 gT_0 ++ (wX9 (aT 1) aT_1 yT_1 gT_1 ++ (wX4 hP0 aP0 yP0 gP0 ++ (wX0 hP1 aP1 yP1 gP1))))) → lv_has ls 9 [(0, .ref hT)] → fn gT gT_0 gT_1 gP0 gP1 = some q → W p l e R_X1_run s m args below meth c H locs 0 0 (MQ below (QI D A (wX1 hT aT yT q.2 ++ (wX6 (aT 0) aT_0 yT_0 gT_0 ++ (wX9 (aT 1) aT_1 yT_1 gT_1 ++ (wX4 hP0 aP0 yP0 gP0 ++ (wX0 hP1 aP1 yP1 gP1))))) q.1) args s 0 0 A) (F0 m 558 ls [])
def S_X1_run_546 (l : Launch) (D : Dx) (hT : Nat) (aT : Nat → Nat) (yT : Nat → ClassId) (aT_0 : Nat → Nat) (yT_0 : Nat → ClassId) (aT_1 : Nat → Nat) (yT_1 : Nat → ClassId) (hP0 : Nat) (aP0 : Nat → Nat) (yP0 : Nat → ClassId) (hP1 : Nat) (aP1 : Nat → Nat) (yP1 : Nat → ClassId) (fn : Gs → Gs → Gs → Gs → Gs → Int32 → Int32 → Int32 → Option (Int32 × Gs)) : Prop :=
  ∀ {p : Program} {e : Env} {s : State} {m : MethodId} {args : Array Value} {below : List Frame} {meth : Method} {c : Code} {H : Heap} {locs : List Loc} {A : Nat → Prop} {ls : Array Slot} {gT : Gs} {gT_0 : Gs} {gT_1 : Gs} {gP0 : Gs} {gP1 : Gs} {v5 : Int32} {v6 : Int32} {v8 : Int32} {q : Int32 × Gs}, Cx p s m args meth c cX1_run (some .boolean) 9 RX1 lw_all → Hx D (tX1 yT ++ (tX6 yT_0 ++ (tX9 yT_1 ++ (tX4 yP0 ++ (tX0 yP1))))) A s H locs (wX1 hT aT yT gT ++ (wX6 (aT 0) aT_0 yT_0 gT_0 ++ (wX9 (aT 1) aT_1 yT_1 gT_1 ++ (wX4 hP0 aP0 yP0 gP0 ++ (wX0 hP1 aP1 yP1 gP1))))) → lv_has ls 9 [(0, .ref hT), (1, .ref hP0), (2, .ref hP1), (5, .int v5), (6, .int v6), (8, .int v8)] → fn gT gT_0 gT_1 gP0 gP1 v5 v6 v8 = some q → W p l e R_X1_run s m args below meth c H locs 0 0 (MQ below (QI D A (wX1 hT aT yT q.2 ++ (wX6 (aT 0) aT_0 yT_0 gT_0 ++ (wX9 (aT 1) aT_1 yT_1 gT_1 ++ (wX4 hP0 aP0 yP0 gP0 ++ (wX0 hP1 aP1 yP1 gP1))))) q.1) args s 0 0 A) (F0 m 546 ls [])
def S_X1_run_519 (l : Launch) (D : Dx) (hT : Nat) (aT : Nat → Nat) (yT : Nat → ClassId) (aT_0 : Nat → Nat) (yT_0 : Nat → ClassId) (aT_1 : Nat → Nat) (yT_1 : Nat → ClassId) (hP0 : Nat) (aP0 : Nat → Nat) (yP0 : Nat → ClassId) (hP1 : Nat) (aP1 : Nat → Nat) (yP1 : Nat → ClassId) (fn : Gs → Gs → Gs → Gs → Gs → Int32 → Int32 → Int32 → Int32 → Int32 → Option (Int32 × Gs)) : Prop :=
  ∀ {p : Program} {e : Env} {s : State} {m : MethodId} {args : Array Value} {below : List Frame} {meth : Method} {c : Code} {H : Heap} {locs : List Loc} {A : Nat → Prop} {ls : Array Slot} {gT : Gs} {gT_0 : Gs} {gT_1 : Gs} {gP0 : Gs} {gP1 : Gs} {v4 : Int32} {v5 : Int32} {v6 : Int32} {v7 : Int32} {v8 : Int32} {q : Int32 × Gs}, Cx p s m args meth c cX1_run (some .boolean) 9 RX1 lw_all → Hx D (tX1 yT ++ (tX6 yT_0 ++ (tX9 yT_1 ++ (tX4 yP0 ++ (tX0 yP1))))) A s H locs (wX1 hT aT yT gT ++ (wX6 (aT 0) aT_0 yT_0 gT_0 ++ (wX9 (aT 1) aT_1 yT_1 gT_1 ++ (wX4 hP0 aP0 yP0 gP0 ++ (wX0 hP1 aP1 yP1 gP1))))) → lv_has ls 9 [(0, .ref hT), (1, .ref hP0), (2, .ref hP1), (4, .int v4), (5, .int v5), (6, .int v6), (7, .int v7), (8, .int v8)] → fn gT gT_0 gT_1 gP0 gP1 v4 v5 v6 v7 v8 = some q → W p l e R_X1_run s m args below meth c H locs 0 0 (MQ below (QI D A (wX1 hT aT yT q.2 ++ (wX6 (aT 0) aT_0 yT_0 gT_0 ++ (wX9 (aT 1) aT_1 yT_1 gT_1 ++ (wX4 hP0 aP0 yP0 gP0 ++ (wX0 hP1 aP1 yP1 gP1))))) q.1) args s 0 0 A) (F0 m 519 ls [])
def S_X1_run_431 (l : Launch) (D : Dx) (hT : Nat) (aT : Nat → Nat) (yT : Nat → ClassId) (aT_0 : Nat → Nat) (yT_0 : Nat → ClassId) (aT_1 : Nat → Nat) (yT_1 : Nat → ClassId) (hP0 : Nat) (aP0 : Nat → Nat) (yP0 : Nat → ClassId) (hP1 : Nat) (aP1 : Nat → Nat) (yP1 : Nat → ClassId) (fn : Gs → Gs → Gs → Gs → Gs → Int32 → Int32 → Int32 → Int32 → Int32 → Option (Int32 × Gs)) : Prop :=
  ∀ {p : Program} {e : Env} {s : State} {m : MethodId} {args : Array Value} {below : List Frame} {meth : Method} {c : Code} {H : Heap} {locs : List Loc} {A : Nat → Prop} {ls : Array Slot} {gT : Gs} {gT_0 : Gs} {gT_1 : Gs} {gP0 : Gs} {gP1 : Gs} {v5 : Int32} {v6 : Int32} {v8 : Int32} {s0 : Int32} {s1 : Int32} {q : Int32 × Gs}, Cx p s m args meth c cX1_run (some .boolean) 9 RX1 lw_all → Hx D (tX1 yT ++ (tX6 yT_0 ++ (tX9 yT_1 ++ (tX4 yP0 ++ (tX0 yP1))))) A s H locs (wX1 hT aT yT gT ++ (wX6 (aT 0) aT_0 yT_0 gT_0 ++ (wX9 (aT 1) aT_1 yT_1 gT_1 ++ (wX4 hP0 aP0 yP0 gP0 ++ (wX0 hP1 aP1 yP1 gP1))))) → lv_has ls 9 [(0, .ref hT), (1, .ref hP0), (2, .ref hP1), (5, .int v5), (6, .int v6), (8, .int v8)] → fn gT gT_0 gT_1 gP0 gP1 v5 v6 v8 s0 s1 = some q → W p l e R_X1_run s m args below meth c H locs 0 0 (MQ below (QI D A (wX1 hT aT yT q.2 ++ (wX6 (aT 0) aT_0 yT_0 gT_0 ++ (wX9 (aT 1) aT_1 yT_1 gT_1 ++ (wX4 hP0 aP0 yP0 gP0 ++ (wX0 hP1 aP1 yP1 gP1))))) q.1) args s 0 0 A) (F0 m 431 ls [.int s0, .int s1, .ref hT])
def S_X1_run_411 (l : Launch) (D : Dx) (hT : Nat) (aT : Nat → Nat) (yT : Nat → ClassId) (aT_0 : Nat → Nat) (yT_0 : Nat → ClassId) (aT_1 : Nat → Nat) (yT_1 : Nat → ClassId) (hP0 : Nat) (aP0 : Nat → Nat) (yP0 : Nat → ClassId) (hP1 : Nat) (aP1 : Nat → Nat) (yP1 : Nat → ClassId) (fn : Gs → Gs → Gs → Gs → Gs → Int32 → Int32 → Int32 → Int32 → Int32 → Option (Int32 × Gs)) : Prop :=
  ∀ {p : Program} {e : Env} {s : State} {m : MethodId} {args : Array Value} {below : List Frame} {meth : Method} {c : Code} {H : Heap} {locs : List Loc} {A : Nat → Prop} {ls : Array Slot} {gT : Gs} {gT_0 : Gs} {gT_1 : Gs} {gP0 : Gs} {gP1 : Gs} {v4 : Int32} {v5 : Int32} {v6 : Int32} {v7 : Int32} {v8 : Int32} {q : Int32 × Gs}, Cx p s m args meth c cX1_run (some .boolean) 9 RX1 lw_all → Hx D (tX1 yT ++ (tX6 yT_0 ++ (tX9 yT_1 ++ (tX4 yP0 ++ (tX0 yP1))))) A s H locs (wX1 hT aT yT gT ++ (wX6 (aT 0) aT_0 yT_0 gT_0 ++ (wX9 (aT 1) aT_1 yT_1 gT_1 ++ (wX4 hP0 aP0 yP0 gP0 ++ (wX0 hP1 aP1 yP1 gP1))))) → lv_has ls 9 [(0, .ref hT), (1, .ref hP0), (2, .ref hP1), (4, .int v4), (5, .int v5), (6, .int v6), (7, .int v7), (8, .int v8)] → fn gT gT_0 gT_1 gP0 gP1 v4 v5 v6 v7 v8 = some q → W p l e R_X1_run s m args below meth c H locs 0 0 (MQ below (QI D A (wX1 hT aT yT q.2 ++ (wX6 (aT 0) aT_0 yT_0 gT_0 ++ (wX9 (aT 1) aT_1 yT_1 gT_1 ++ (wX4 hP0 aP0 yP0 gP0 ++ (wX0 hP1 aP1 yP1 gP1))))) q.1) args s 0 0 A) (F0 m 411 ls [])
def S_X1_run_496 (l : Launch) (D : Dx) (hT : Nat) (aT : Nat → Nat) (yT : Nat → ClassId) (aT_0 : Nat → Nat) (yT_0 : Nat → ClassId) (aT_1 : Nat → Nat) (yT_1 : Nat → ClassId) (hP0 : Nat) (aP0 : Nat → Nat) (yP0 : Nat → ClassId) (hP1 : Nat) (aP1 : Nat → Nat) (yP1 : Nat → ClassId) (fn : Gs → Gs → Gs → Gs → Gs → Int32 → Int32 → Int32 → Int32 → Int32 → Option (Int32 × Gs)) : Prop :=
  ∀ {p : Program} {e : Env} {s : State} {m : MethodId} {args : Array Value} {below : List Frame} {meth : Method} {c : Code} {H : Heap} {locs : List Loc} {A : Nat → Prop} {ls : Array Slot} {gT : Gs} {gT_0 : Gs} {gT_1 : Gs} {gP0 : Gs} {gP1 : Gs} {v4 : Int32} {v5 : Int32} {v6 : Int32} {v7 : Int32} {v8 : Int32} {q : Int32 × Gs}, Cx p s m args meth c cX1_run (some .boolean) 9 RX1 lw_all → Hx D (tX1 yT ++ (tX6 yT_0 ++ (tX9 yT_1 ++ (tX4 yP0 ++ (tX0 yP1))))) A s H locs (wX1 hT aT yT gT ++ (wX6 (aT 0) aT_0 yT_0 gT_0 ++ (wX9 (aT 1) aT_1 yT_1 gT_1 ++ (wX4 hP0 aP0 yP0 gP0 ++ (wX0 hP1 aP1 yP1 gP1))))) → lv_has ls 9 [(0, .ref hT), (1, .ref hP0), (2, .ref hP1), (4, .int v4), (5, .int v5), (6, .int v6), (7, .int v7), (8, .int v8)] → fn gT gT_0 gT_1 gP0 gP1 v4 v5 v6 v7 v8 = some q → W p l e R_X1_run s m args below meth c H locs 0 0 (MQ below (QI D A (wX1 hT aT yT q.2 ++ (wX6 (aT 0) aT_0 yT_0 gT_0 ++ (wX9 (aT 1) aT_1 yT_1 gT_1 ++ (wX4 hP0 aP0 yP0 gP0 ++ (wX0 hP1 aP1 yP1 gP1))))) q.1) args s 0 0 A) (F0 m 496 ls [])
def S_X1_run_478 (l : Launch) (D : Dx) (hT : Nat) (aT : Nat → Nat) (yT : Nat → ClassId) (aT_0 : Nat → Nat) (yT_0 : Nat → ClassId) (aT_1 : Nat → Nat) (yT_1 : Nat → ClassId) (hP0 : Nat) (aP0 : Nat → Nat) (yP0 : Nat → ClassId) (hP1 : Nat) (aP1 : Nat → Nat) (yP1 : Nat → ClassId) (fn : Gs → Gs → Gs → Gs → Gs → Int32 → Int32 → Int32 → Option (Int32 × Gs)) : Prop :=
  ∀ {p : Program} {e : Env} {s : State} {m : MethodId} {args : Array Value} {below : List Frame} {meth : Method} {c : Code} {H : Heap} {locs : List Loc} {A : Nat → Prop} {ls : Array Slot} {gT : Gs} {gT_0 : Gs} {gT_1 : Gs} {gP0 : Gs} {gP1 : Gs} {v5 : Int32} {v6 : Int32} {v8 : Int32} {q : Int32 × Gs}, Cx p s m args meth c cX1_run (some .boolean) 9 RX1 lw_all → Hx D (tX1 yT ++ (tX6 yT_0 ++ (tX9 yT_1 ++ (tX4 yP0 ++ (tX0 yP1))))) A s H locs (wX1 hT aT yT gT ++ (wX6 (aT 0) aT_0 yT_0 gT_0 ++ (wX9 (aT 1) aT_1 yT_1 gT_1 ++ (wX4 hP0 aP0 yP0 gP0 ++ (wX0 hP1 aP1 yP1 gP1))))) → lv_has ls 9 [(0, .ref hT), (1, .ref hP0), (2, .ref hP1), (5, .int v5), (6, .int v6), (8, .int v8)] → fn gT gT_0 gT_1 gP0 gP1 v5 v6 v8 = some q → W p l e R_X1_run s m args below meth c H locs 0 0 (MQ below (QI D A (wX1 hT aT yT q.2 ++ (wX6 (aT 0) aT_0 yT_0 gT_0 ++ (wX9 (aT 1) aT_1 yT_1 gT_1 ++ (wX4 hP0 aP0 yP0 gP0 ++ (wX0 hP1 aP1 yP1 gP1))))) q.1) args s 0 0 A) (F0 m 478 ls [])
def S_X1_run_437 (l : Launch) (D : Dx) (hT : Nat) (aT : Nat → Nat) (yT : Nat → ClassId) (aT_0 : Nat → Nat) (yT_0 : Nat → ClassId) (aT_1 : Nat → Nat) (yT_1 : Nat → ClassId) (hP0 : Nat) (aP0 : Nat → Nat) (yP0 : Nat → ClassId) (hP1 : Nat) (aP1 : Nat → Nat) (yP1 : Nat → ClassId) (fn : Gs → Gs → Gs → Gs → Gs → Int32 → Int32 → Int32 → Int32 → Option (Int32 × Gs)) : Prop :=
  ∀ {p : Program} {e : Env} {s : State} {m : MethodId} {args : Array Value} {below : List Frame} {meth : Method} {c : Code} {H : Heap} {locs : List Loc} {A : Nat → Prop} {ls : Array Slot} {gT : Gs} {gT_0 : Gs} {gT_1 : Gs} {gP0 : Gs} {gP1 : Gs} {v4 : Int32} {v5 : Int32} {v6 : Int32} {v7 : Int32} {q : Int32 × Gs}, Cx p s m args meth c cX1_run (some .boolean) 9 RX1 lw_all → Hx D (tX1 yT ++ (tX6 yT_0 ++ (tX9 yT_1 ++ (tX4 yP0 ++ (tX0 yP1))))) A s H locs (wX1 hT aT yT gT ++ (wX6 (aT 0) aT_0 yT_0 gT_0 ++ (wX9 (aT 1) aT_1 yT_1 gT_1 ++ (wX4 hP0 aP0 yP0 gP0 ++ (wX0 hP1 aP1 yP1 gP1))))) → lv_has ls 9 [(0, .ref hT), (1, .ref hP0), (2, .ref hP1), (4, .int v4), (5, .int v5), (6, .int v6), (7, .int v7)] → fn gT gT_0 gT_1 gP0 gP1 v4 v5 v6 v7 = some q → W p l e R_X1_run s m args below meth c H locs 0 0 (MQ below (QI D A (wX1 hT aT yT q.2 ++ (wX6 (aT 0) aT_0 yT_0 gT_0 ++ (wX9 (aT 1) aT_1 yT_1 gT_1 ++ (wX4 hP0 aP0 yP0 gP0 ++ (wX0 hP1 aP1 yP1 gP1))))) q.1) args s 0 0 A) (F0 m 437 ls [])
def S_X1_run_27 (l : Launch) (D : Dx) (hT : Nat) (aT : Nat → Nat) (yT : Nat → ClassId) (aT_0 : Nat → Nat) (yT_0 : Nat → ClassId) (aT_1 : Nat → Nat) (yT_1 : Nat → ClassId) (hP0 : Nat) (aP0 : Nat → Nat) (yP0 : Nat → ClassId) (hP1 : Nat) (aP1 : Nat → Nat) (yP1 : Nat → ClassId) (fn : Gs → Gs → Gs → Gs → Gs → Int32 → Int32 → Int32 → Option (Int32 × Gs)) : Prop :=
  ∀ {p : Program} {e : Env} {s : State} {m : MethodId} {args : Array Value} {below : List Frame} {meth : Method} {c : Code} {H : Heap} {locs : List Loc} {A : Nat → Prop} {ls : Array Slot} {gT : Gs} {gT_0 : Gs} {gT_1 : Gs} {gP0 : Gs} {gP1 : Gs} {v4 : Int32} {v5 : Int32} {v6 : Int32} {q : Int32 × Gs}, Cx p s m args meth c cX1_run (some .boolean) 9 RX1 lw_all → Hx D (tX1 yT ++ (tX6 yT_0 ++ (tX9 yT_1 ++ (tX4 yP0 ++ (tX0 yP1))))) A s H locs (wX1 hT aT yT gT ++ (wX6 (aT 0) aT_0 yT_0 gT_0 ++ (wX9 (aT 1) aT_1 yT_1 gT_1 ++ (wX4 hP0 aP0 yP0 gP0 ++ (wX0 hP1 aP1 yP1 gP1))))) → lv_has ls 9 [(0, .ref hT), (1, .ref hP0), (2, .ref hP1), (4, .int v4), (5, .int v5), (6, .int v6)] → fn gT gT_0 gT_1 gP0 gP1 v4 v5 v6 = some q → W p l e R_X1_run s m args below meth c H locs 0 0 (MQ below (QI D A (wX1 hT aT yT q.2 ++ (wX6 (aT 0) aT_0 yT_0 gT_0 ++ (wX9 (aT 1) aT_1 yT_1 gT_1 ++ (wX4 hP0 aP0 yP0 gP0 ++ (wX0 hP1 aP1 yP1 gP1))))) q.1) args s 0 0 A) (F0 m 27 ls [])
def SH_X1_run (l : Launch) (D : Dx) (hT : Nat) (aT : Nat → Nat) (yT : Nat → ClassId) (aT_0 : Nat → Nat) (yT_0 : Nat → ClassId) (aT_1 : Nat → Nat) (yT_1 : Nat → ClassId) (hP0 : Nat) (aP0 : Nat → Nat) (yP0 : Nat → ClassId) (hP1 : Nat) (aP1 : Nat → Nat) (yP1 : Nat → ClassId) (rec : (Gs → Gs → Gs → Gs → Gs → Int32 → Int32 → Int32 → Option (Int32 × Gs))) : Prop := S_X1_run_27 l D hT aT yT aT_0 yT_0 aT_1 yT_1 hP0 aP0 yP0 hP1 aP1 yP1 rec
set_option maxHeartbeats 4000000 in
set_option maxRecDepth 100000 in
theorem k_X1_run_558 (l : Launch) (D : Dx) (hT : Nat) (aT : Nat → Nat) (yT : Nat → ClassId) (aT_0 : Nat → Nat) (yT_0 : Nat → ClassId) (aT_1 : Nat → Nat) (yT_1 : Nat → ClassId) (hP0 : Nat) (aP0 : Nat → Nat) (yP0 : Nat → ClassId) (hP1 : Nat) (aP1 : Nat → Nat) (yP1 : Nat → ClassId) (n : Nat) (rec : (Gs → Gs → Gs → Gs → Gs → Int32 → Int32 → Int32 → Option (Int32 × Gs))) (IH : SH_X1_run l D hT aT yT aT_0 yT_0 aT_1 yT_1 hP0 aP0 yP0 hP1 aP1 yP1 rec) : S_X1_run_558 l D hT aT yT aT_0 yT_0 aT_1 yT_1 hP0 aP0 yP0 hP1 aP1 yP1 (b_X1_run_558 n rec) := by
  intro p e s m args below meth c H locs A ls gT gT_0 gT_1 gP0 gP1 q C X hl hF
  obtain ⟨hx, hb, hr, hml, hown, hts, hlk⟩ := id C
  unfold b_X1_run_558 at hF
  refine lv_aload_n hx hb dX1_run_558 rfl (lv_at hl 0 rfl) ?_
  refine va_get (D := D.1) (ci := 1) (v := .int (gI gT 5)) (C := RX1) (T := TX1) (N := 7) hx hb hts wi_X1 hown X.1 X.2.1 0 rfl rfl 5 (by decide) (hts _ q1_144) (fun _ h9 => h9) (fl_get (by decide)) dX1_run_559 ?_
  refine lv_if_ne (tgt := 569) hx hb dX1_run_562 (by decide) (fun c => ?_) (fun c => ?_)
  · replace hF := iF c hF
    refine lv_iconst (v := (0 : Int32)) hx hb dX1_run_569 (by decide) ?_
    have hq := Option.some.inj hF
    subst hq
    exact rt_z (v := (0 : Int32)) C X (by decide) dX1_run_570
  · replace hF := iT c hF
    refine lv_iconst (v := (1 : Int32)) hx hb dX1_run_565 (by decide) ?_
    refine lv_goto (tgt := 570) hx hb dX1_run_566 (by decide) ?_
    have hq := Option.some.inj hF
    subst hq
    exact rt_z (v := (1 : Int32)) C X (by decide) dX1_run_570
set_option maxHeartbeats 4000000 in
set_option maxRecDepth 100000 in
theorem k_X1_run_546 (l : Launch) (D : Dx) (hT : Nat) (aT : Nat → Nat) (yT : Nat → ClassId) (aT_0 : Nat → Nat) (yT_0 : Nat → ClassId) (aT_1 : Nat → Nat) (yT_1 : Nat → ClassId) (hP0 : Nat) (aP0 : Nat → Nat) (yP0 : Nat → ClassId) (hP1 : Nat) (aP1 : Nat → Nat) (yP1 : Nat → ClassId) (n : Nat) (rec : (Gs → Gs → Gs → Gs → Gs → Int32 → Int32 → Int32 → Option (Int32 × Gs))) (IH : SH_X1_run l D hT aT yT aT_0 yT_0 aT_1 yT_1 hP0 aP0 yP0 hP1 aP1 yP1 rec) : S_X1_run_546 l D hT aT yT aT_0 yT_0 aT_1 yT_1 hP0 aP0 yP0 hP1 aP1 yP1 (b_X1_run_546 n rec) := by
  intro p e s m args below meth c H locs A ls gT gT_0 gT_1 gP0 gP1 v5 v6 v8 q C X hl hF
  obtain ⟨hx, hb, hr, hml, hown, hts, hlk⟩ := id C
  unfold b_X1_run_546 at hF
  refine lv_iload hx hb dX1_run_546 (lv_at hl 5 rfl) ?_
  refine lv_iconst (v := (1 : Int32)) hx hb dX1_run_548 (by decide) ?_
  refine lv_iadd hx hb dX1_run_549 ?_
  refine lv_istore (lv' := [(4, .int (v8 + (1 : Int32))), (0, .ref hT), (1, .ref hP0), (2, .ref hP1), (5, .int v5), (6, .int v6), (8, .int v8)]) hx hb dX1_run_550 hl (by decide) rfl (fun ls hl => ?_)
  refine lv_iinc (v := v6 + (1 : Int32)) (lv' := [(6, .int (v6 + (1 : Int32))), (4, .int (v8 + (1 : Int32))), (0, .ref hT), (1, .ref hP0), (2, .ref hP1), (5, .int v5), (8, .int v8)]) hx hb dX1_run_552 hl (k := 5) rfl rfl (by decide) rfl (fun ls hl => ?_)
  refine lv_goto (tgt := 27) hx hb dX1_run_555 (by decide) ?_
  exact IH C X (lv_sub hl [2, 3, 4, 1, 5, 0] rfl) hF
set_option maxHeartbeats 4000000 in
set_option maxRecDepth 100000 in
theorem k_X1_run_519 (l : Launch) (D : Dx) (hT : Nat) (aT : Nat → Nat) (yT : Nat → ClassId) (aT_0 : Nat → Nat) (yT_0 : Nat → ClassId) (aT_1 : Nat → Nat) (yT_1 : Nat → ClassId) (hP0 : Nat) (aP0 : Nat → Nat) (yP0 : Nat → ClassId) (hP1 : Nat) (aP1 : Nat → Nat) (yP1 : Nat → ClassId) (n : Nat) (rec : (Gs → Gs → Gs → Gs → Gs → Int32 → Int32 → Int32 → Option (Int32 × Gs))) (IH : SH_X1_run l D hT aT yT aT_0 yT_0 aT_1 yT_1 hP0 aP0 yP0 hP1 aP1 yP1 rec) : S_X1_run_519 l D hT aT yT aT_0 yT_0 aT_1 yT_1 hP0 aP0 yP0 hP1 aP1 yP1 (b_X1_run_519 n rec) := by
  intro p e s m args below meth c H locs A ls gT gT_0 gT_1 gP0 gP1 v4 v5 v6 v7 v8 q C X hl hF
  obtain ⟨hx, hb, hr, hml, hown, hts, hlk⟩ := id C
  unfold b_X1_run_519 at hF
  refine lv_aload_n hx hb dX1_run_519 rfl (lv_at hl 0 rfl) ?_
  refine lv_iload hx hb dX1_run_520 (lv_at hl 6 rfl) ?_
  refine lv_aload_n hx hb dX1_run_522 rfl (lv_at hl 2 rfl) ?_
  refine va_getN (D := D.1) (ci := 0) (v := .ref (aP1 3)) (C := RX0) (T := TX0) (N := 19) hx hb hts wi_X0 hown X.1 X.2.1 29 rfl rfl 3 (by decide) (X.2.2.2.2.2.1.use q1_219 rfl) (fun _ h9 => h9) (fl_get (by decide)) dX1_run_523 ?_
  refine lv_iload hx hb dX1_run_526 (lv_at hl 3 rfl) ?_
  obtain ⟨h_11, hF⟩ := grd_some hF
  refine va_iald (D := D.1) (f := gIA gP1 3) hx hb X.1 X.2.1 33 28 rfl rfl (inB_ok h_11) dX1_run_528 ?_
  refine lv_aload_n hx hb dX1_run_529 rfl (lv_at hl 2 rfl) ?_
  refine va_getN (D := D.1) (ci := 0) (v := .ref (aP1 4)) (C := RX0) (T := TX0) (N := 19) hx hb hts wi_X0 hown X.1 X.2.1 29 rfl rfl 4 (by decide) (X.2.2.2.2.2.1.use q1_224 rfl) (fun _ h9 => h9) (fl_get (by decide)) dX1_run_530 ?_
  refine lv_iload hx hb dX1_run_533 (lv_at hl 3 rfl) ?_
  obtain ⟨h_12, hF⟩ := grd_some hF
  refine va_iald (D := D.1) (f := gIA gP1 4) hx hb X.1 X.2.1 34 29 rfl rfl (inB_ok h_12) dX1_run_535 ?_
  refine lv_aload_n hx hb dX1_run_536 rfl (lv_at hl 2 rfl) ?_
  refine va_getN (D := D.1) (ci := 0) (v := .ref (aP1 2)) (C := RX0) (T := TX0) (N := 19) hx hb hts wi_X0 hown X.1 X.2.1 29 rfl rfl 2 (by decide) (X.2.2.2.2.2.1.use q1_216 rfl) (fun _ h9 => h9) (fl_get (by decide)) dX1_run_537 ?_
  refine lv_iload hx hb dX1_run_540 (lv_at hl 3 rfl) ?_
  obtain ⟨h_13, hF⟩ := grd_some hF
  refine va_iald (D := D.1) (f := gIA gP1 2) hx hb X.1 X.2.1 32 27 rfl rfl (inB_ok h_13) dX1_run_542 ?_
  obtain ⟨q_14, hc_15, hF⟩ := bnd_some hF
  refine cV_v (As := [.int v7, .int (gIA gP1 3 v4.toNatClampNeg), .int (gIA gP1 4 v4.toNatClampNeg), .int (gIA gP1 2 v4.toNatClampNeg)]) (rest := []) C X (c_X1_workTwo l D hT aT yT aT_0 yT_0 n gT gT_0 v7 (gIA gP1 3 v4.toNatClampNeg) (gIA gP1 4 v4.toNatClampNeg) (gIA gP1 2 v4.toNatClampNeg) q_14 hc_15 _) (cwV 4 hts (good_V q5_85 q5_87 q0_53 q1_4 q5_88) rfl rfl rfl (by decide +kernel) ⟨Nat.le_of_ble_eq_true rfl, Nat.le_of_ble_eq_true rfl⟩) (va_recv X.1 X.2.1 (ci := 1) (q0 := 0) rfl rfl) (X.1.sub (tys' := tX1 yT ++ (tX6 yT_0)) [0, 1, 2] rfl) (X.2.1.sub (ws' := wX1 hT aT yT gT ++ (wX6 (aT 0) aT_0 yT_0 gT_0)) [0, 1, 2, 3, 4] rfl) (X.2.2.1.sub (ws' := wX1 hT aT yT gT ++ (wX6 (aT 0) aT_0 yT_0 gT_0)) [0, 1, 2, 3, 4] (by decide) rfl) (free_of (wC := wX1 hT aT yT gT ++ (wX6 (aT 0) aT_0 yT_0 gT_0)) (isC := [0, 1, 2, 3, 4]) X rfl) hl.1 rfl rfl (Nat.le_of_ble_eq_true rfl) dX1_run_543 ⟨Nat.le_of_ble_eq_true rfl, Nat.le_of_ble_eq_true rfl⟩ (fun t H1 locs1 ht hB hk hS => ?_)
  have X : Hx D (tX1 yT ++ (tX6 yT_0 ++ (tX9 yT_1 ++ (tX4 yP0 ++ (tX0 yP1))))) A s H1 locs1 (wX1 hT aT yT q_14 ++ (wX6 (aT 0) aT_0 yT_0 gT_0 ++ (wX9 (aT 1) aT_1 yT_1 gT_1 ++ (wX4 hP0 aP0 yP0 gP0 ++ (wX0 hP1 aP1 yP1 gP1))))) := Hx_after (isC := [0, 1, 2, 3, 4]) (isR := [5, 6, 7, 8, 9, 10, 11, 12, 13, 14, 15, 16, 17, 18, 19, 20, 21, 22, 23, 24, 25, 26, 27, 28, 29, 30, 31, 32, 33, 34, 35, 36, 37, 38, 39, 40, 41, 42, 43, 44]) (pm := [40, 41, 42, 43, 44, 0, 1, 2, 3, 4, 5, 6, 7, 8, 9, 10, 11, 12, 13, 14, 15, 16, 17, 18, 19, 20, 21, 22, 23, 24, 25, 26, 27, 28, 29, 30, 31, 32, 33, 34, 35, 36, 37, 38, 39]) (wr := wX9 (aT 1) aT_1 yT_1 gT_1 ++ (wX4 hP0 aP0 yP0 gP0 ++ (wX0 hP1 aP1 yP1 gP1))) X ⟨rfl, rfl, by decide, by decide, rfl, by decide⟩ ht hB hk hS
  clear hk hS ht hB
  generalize H1 = H at X ⊢
  generalize locs1 = locs at X ⊢
  exact (k_X1_run_546 l D hT aT yT aT_0 yT_0 aT_1 yT_1 hP0 aP0 yP0 hP1 aP1 yP1 n rec IH) C X (lv_sub hl [0, 1, 2, 4, 5, 7] rfl) hF
set_option maxHeartbeats 4000000 in
set_option maxRecDepth 100000 in
theorem k_X1_run_431 (l : Launch) (D : Dx) (hT : Nat) (aT : Nat → Nat) (yT : Nat → ClassId) (aT_0 : Nat → Nat) (yT_0 : Nat → ClassId) (aT_1 : Nat → Nat) (yT_1 : Nat → ClassId) (hP0 : Nat) (aP0 : Nat → Nat) (yP0 : Nat → ClassId) (hP1 : Nat) (aP1 : Nat → Nat) (yP1 : Nat → ClassId) (n : Nat) (rec : (Gs → Gs → Gs → Gs → Gs → Int32 → Int32 → Int32 → Option (Int32 × Gs))) (IH : SH_X1_run l D hT aT yT aT_0 yT_0 aT_1 yT_1 hP0 aP0 yP0 hP1 aP1 yP1 rec) : S_X1_run_431 l D hT aT yT aT_0 yT_0 aT_1 yT_1 hP0 aP0 yP0 hP1 aP1 yP1 (b_X1_run_431 n rec) := by
  intro p e s m args below meth c H locs A ls gT gT_0 gT_1 gP0 gP1 v5 v6 v8 s0 s1 q C X hl hF
  obtain ⟨hx, hb, hr, hml, hown, hts, hlk⟩ := id C
  unfold b_X1_run_431 at hF
  obtain ⟨q_17, hc_18, hF⟩ := bnd_some hF
  refine cV_v (As := [.int s1, .int s0]) (rest := []) C X (c_X1_pushThing l D hT aT yT aT_1 yT_1 gT gT_1 s1 s0 q_17 hc_18 _) (cwV 2 hts (good_V q5_42 q5_44 q0_48 q1_4 q5_45) rfl rfl rfl (by decide +kernel) ⟨Nat.le_of_ble_eq_true rfl, Nat.le_of_ble_eq_true rfl⟩) (va_recv X.1 X.2.1 (ci := 1) (q0 := 0) rfl rfl) (X.1.sub (tys' := tX1 yT ++ (tX9 yT_1)) [0, 1, 3, 4, 5, 6, 7, 8, 9, 10, 11, 12, 13, 14] rfl) (X.2.1.sub (ws' := wX1 hT aT yT gT ++ (wX9 (aT 1) aT_1 yT_1 gT_1)) [0, 1, 2, 5, 6, 7, 8, 9, 10, 11, 12, 13, 14, 15, 16, 17] rfl) (X.2.2.1.sub (ws' := wX1 hT aT yT gT ++ (wX9 (aT 1) aT_1 yT_1 gT_1)) [0, 1, 2, 5, 6, 7, 8, 9, 10, 11, 12, 13, 14, 15, 16, 17] (by decide) rfl) (free_of (wC := wX1 hT aT yT gT ++ (wX9 (aT 1) aT_1 yT_1 gT_1)) (isC := [0, 1, 2, 5, 6, 7, 8, 9, 10, 11, 12, 13, 14, 15, 16, 17]) X rfl) hl.1 rfl rfl (Nat.le_of_ble_eq_true rfl) dX1_run_431 ⟨Nat.le_of_ble_eq_true rfl, Nat.le_of_ble_eq_true rfl⟩ (fun t H1 locs1 ht hB hk hS => ?_)
  have X : Hx D (tX1 yT ++ (tX6 yT_0 ++ (tX9 yT_1 ++ (tX4 yP0 ++ (tX0 yP1))))) A s H1 locs1 (wX1 hT aT yT q_17 ++ (wX6 (aT 0) aT_0 yT_0 gT_0 ++ (wX9 (aT 1) aT_1 yT_1 gT_1 ++ (wX4 hP0 aP0 yP0 gP0 ++ (wX0 hP1 aP1 yP1 gP1))))) := Hx_after (isC := [0, 1, 2, 5, 6, 7, 8, 9, 10, 11, 12, 13, 14, 15, 16, 17]) (isR := [3, 4, 18, 19, 20, 21, 22, 23, 24, 25, 26, 27, 28, 29, 30, 31, 32, 33, 34, 35, 36, 37, 38, 39, 40, 41, 42, 43, 44]) (pm := [29, 30, 31, 0, 1, 32, 33, 34, 35, 36, 37, 38, 39, 40, 41, 42, 43, 44, 2, 3, 4, 5, 6, 7, 8, 9, 10, 11, 12, 13, 14, 15, 16, 17, 18, 19, 20, 21, 22, 23, 24, 25, 26, 27, 28]) (wr := wX6 (aT 0) aT_0 yT_0 gT_0 ++ (wX4 hP0 aP0 yP0 gP0 ++ (wX0 hP1 aP1 yP1 gP1))) X ⟨rfl, rfl, by decide, by decide, rfl, by decide⟩ ht hB hk hS
  clear hk hS ht hB
  generalize H1 = H at X ⊢
  generalize locs1 = locs at X ⊢
  refine lv_goto (tgt := 546) hx hb dX1_run_434 (by decide) ?_
  exact (k_X1_run_546 l D hT aT yT aT_0 yT_0 aT_1 yT_1 hP0 aP0 yP0 hP1 aP1 yP1 n rec IH) C X (lv_sub hl [0, 1, 2, 3, 4, 5] rfl) hF
set_option maxHeartbeats 4000000 in
set_option maxRecDepth 100000 in
theorem k_X1_run_411 (l : Launch) (D : Dx) (hT : Nat) (aT : Nat → Nat) (yT : Nat → ClassId) (aT_0 : Nat → Nat) (yT_0 : Nat → ClassId) (aT_1 : Nat → Nat) (yT_1 : Nat → ClassId) (hP0 : Nat) (aP0 : Nat → Nat) (yP0 : Nat → ClassId) (hP1 : Nat) (aP1 : Nat → Nat) (yP1 : Nat → ClassId) (n : Nat) (rec : (Gs → Gs → Gs → Gs → Gs → Int32 → Int32 → Int32 → Option (Int32 × Gs))) (IH : SH_X1_run l D hT aT yT aT_0 yT_0 aT_1 yT_1 hP0 aP0 yP0 hP1 aP1 yP1 rec) : S_X1_run_411 l D hT aT yT aT_0 yT_0 aT_1 yT_1 hP0 aP0 yP0 hP1 aP1 yP1 (b_X1_run_411 n rec) := by
  intro p e s m args below meth c H locs A ls gT gT_0 gT_1 gP0 gP1 v4 v5 v6 v7 v8 q C X hl hF
  obtain ⟨hx, hb, hr, hml, hown, hts, hlk⟩ := id C
  unfold b_X1_run_411 at hF
  refine lv_aload_n hx hb dX1_run_411 rfl (lv_at hl 0 rfl) ?_
  refine lv_aload_n hx hb dX1_run_412 rfl (lv_at hl 2 rfl) ?_
  refine va_getN (D := D.1) (ci := 0) (v := .ref (aP1 5)) (C := RX0) (T := TX0) (N := 19) hx hb hts wi_X0 hown X.1 X.2.1 29 rfl rfl 5 (by decide) (X.2.2.2.2.2.1.use q1_228 rfl) (fun _ h9 => h9) (fl_get (by decide)) dX1_run_413 ?_
  refine lv_iload hx hb dX1_run_416 (lv_at hl 3 rfl) ?_
  obtain ⟨h_16, hF⟩ := grd_some hF
  refine va_iald (D := D.1) (f := gIA gP1 5) hx hb X.1 X.2.1 35 30 rfl rfl (inB_ok h_16) dX1_run_418 ?_
  refine lv_iload hx hb dX1_run_419 (lv_at hl 6 rfl) ?_
  refine lv_bipush (v := (16 : Int32)) hx hb dX1_run_421 (by decide) ?_
  refine lv_icmp_ne (tgt := 430) hx hb dX1_run_423 (by decide) (fun c => ?_) (fun c => ?_)
  · replace hF := iF c hF
    refine lv_iconst (v := (0 : Int32)) hx hb dX1_run_430 (by decide) ?_
    exact (k_X1_run_431 l D hT aT yT aT_0 yT_0 aT_1 yT_1 hP0 aP0 yP0 hP1 aP1 yP1 n rec IH) C X (lv_sub hl [0, 1, 2, 4, 5, 7] rfl) hF
  · replace hF := iT c hF
    refine lv_iconst (v := (1 : Int32)) hx hb dX1_run_426 (by decide) ?_
    refine lv_goto (tgt := 431) hx hb dX1_run_427 (by decide) ?_
    exact (k_X1_run_431 l D hT aT yT aT_0 yT_0 aT_1 yT_1 hP0 aP0 yP0 hP1 aP1 yP1 n rec IH) C X (lv_sub hl [0, 1, 2, 4, 5, 7] rfl) hF
set_option maxHeartbeats 4000000 in
set_option maxRecDepth 100000 in
theorem k_X1_run_496 (l : Launch) (D : Dx) (hT : Nat) (aT : Nat → Nat) (yT : Nat → ClassId) (aT_0 : Nat → Nat) (yT_0 : Nat → ClassId) (aT_1 : Nat → Nat) (yT_1 : Nat → ClassId) (hP0 : Nat) (aP0 : Nat → Nat) (yP0 : Nat → ClassId) (hP1 : Nat) (aP1 : Nat → Nat) (yP1 : Nat → ClassId) (n : Nat) (rec : (Gs → Gs → Gs → Gs → Gs → Int32 → Int32 → Int32 → Option (Int32 × Gs))) (IH : SH_X1_run l D hT aT yT aT_0 yT_0 aT_1 yT_1 hP0 aP0 yP0 hP1 aP1 yP1 rec) : S_X1_run_496 l D hT aT yT aT_0 yT_0 aT_1 yT_1 hP0 aP0 yP0 hP1 aP1 yP1 (b_X1_run_496 n rec) := by
  intro p e s m args below meth c H locs A ls gT gT_0 gT_1 gP0 gP1 v4 v5 v6 v7 v8 q C X hl hF
  obtain ⟨hx, hb, hr, hml, hown, hts, hlk⟩ := id C
  unfold b_X1_run_496 at hF
  refine lv_aload_n hx hb dX1_run_496 rfl (lv_at hl 0 rfl) ?_
  refine lv_iload hx hb dX1_run_497 (lv_at hl 6 rfl) ?_
  refine lv_aload_n hx hb dX1_run_499 rfl (lv_at hl 2 rfl) ?_
  refine va_getN (D := D.1) (ci := 0) (v := .ref (aP1 3)) (C := RX0) (T := TX0) (N := 19) hx hb hts wi_X0 hown X.1 X.2.1 29 rfl rfl 3 (by decide) (X.2.2.2.2.2.1.use q1_219 rfl) (fun _ h9 => h9) (fl_get (by decide)) dX1_run_500 ?_
  refine lv_iload hx hb dX1_run_503 (lv_at hl 3 rfl) ?_
  obtain ⟨h_23, hF⟩ := grd_some hF
  refine va_iald (D := D.1) (f := gIA gP1 3) hx hb X.1 X.2.1 33 28 rfl rfl (inB_ok h_23) dX1_run_505 ?_
  refine lv_aload_n hx hb dX1_run_506 rfl (lv_at hl 2 rfl) ?_
  refine va_getN (D := D.1) (ci := 0) (v := .ref (aP1 2)) (C := RX0) (T := TX0) (N := 19) hx hb hts wi_X0 hown X.1 X.2.1 29 rfl rfl 2 (by decide) (X.2.2.2.2.2.1.use q1_216 rfl) (fun _ h9 => h9) (fl_get (by decide)) dX1_run_507 ?_
  refine lv_iload hx hb dX1_run_510 (lv_at hl 3 rfl) ?_
  obtain ⟨h_24, hF⟩ := grd_some hF
  refine va_iald (D := D.1) (f := gIA gP1 2) hx hb X.1 X.2.1 32 27 rfl rfl (inB_ok h_24) dX1_run_512 ?_
  obtain ⟨q_25, hc_26, hF⟩ := bnd_some hF
  refine cV_v (As := [.int v7, .int (gIA gP1 3 v4.toNatClampNeg), .int (gIA gP1 2 v4.toNatClampNeg)]) (rest := []) C X (c_X1_workOne l D hT aT yT gT v7 (gIA gP1 3 v4.toNatClampNeg) (gIA gP1 2 v4.toNatClampNeg) q_25 hc_26 _) (cwV 3 hts (good_V q5_63 q5_65 q0_52 q1_4 q5_66) rfl rfl rfl (by decide +kernel) ⟨Nat.le_of_ble_eq_true rfl, Nat.le_of_ble_eq_true rfl⟩) (va_recv X.1 X.2.1 (ci := 1) (q0 := 0) rfl rfl) (X.1.sub (tys' := tX1 yT) [0, 1] rfl) (X.2.1.sub (ws' := wX1 hT aT yT gT) [0, 1, 2] rfl) (X.2.2.1.sub (ws' := wX1 hT aT yT gT) [0, 1, 2] (by decide) rfl) (free_of (wC := wX1 hT aT yT gT) (isC := [0, 1, 2]) X rfl) hl.1 rfl rfl (Nat.le_of_ble_eq_true rfl) dX1_run_513 ⟨Nat.le_of_ble_eq_true rfl, Nat.le_of_ble_eq_true rfl⟩ (fun t H1 locs1 ht hB hk hS => ?_)
  have X : Hx D (tX1 yT ++ (tX6 yT_0 ++ (tX9 yT_1 ++ (tX4 yP0 ++ (tX0 yP1))))) A s H1 locs1 (wX1 hT aT yT q_25 ++ (wX6 (aT 0) aT_0 yT_0 gT_0 ++ (wX9 (aT 1) aT_1 yT_1 gT_1 ++ (wX4 hP0 aP0 yP0 gP0 ++ (wX0 hP1 aP1 yP1 gP1))))) := Hx_after (isC := [0, 1, 2]) (isR := [3, 4, 5, 6, 7, 8, 9, 10, 11, 12, 13, 14, 15, 16, 17, 18, 19, 20, 21, 22, 23, 24, 25, 26, 27, 28, 29, 30, 31, 32, 33, 34, 35, 36, 37, 38, 39, 40, 41, 42, 43, 44]) (pm := [42, 43, 44, 0, 1, 2, 3, 4, 5, 6, 7, 8, 9, 10, 11, 12, 13, 14, 15, 16, 17, 18, 19, 20, 21, 22, 23, 24, 25, 26, 27, 28, 29, 30, 31, 32, 33, 34, 35, 36, 37, 38, 39, 40, 41]) (wr := wX6 (aT 0) aT_0 yT_0 gT_0 ++ (wX9 (aT 1) aT_1 yT_1 gT_1 ++ (wX4 hP0 aP0 yP0 gP0 ++ (wX0 hP1 aP1 yP1 gP1)))) X ⟨rfl, rfl, by decide, by decide, rfl, by decide⟩ ht hB hk hS
  clear hk hS ht hB
  generalize H1 = H at X ⊢
  generalize locs1 = locs at X ⊢
  refine lv_goto (tgt := 546) hx hb dX1_run_516 (by decide) ?_
  exact (k_X1_run_546 l D hT aT yT aT_0 yT_0 aT_1 yT_1 hP0 aP0 yP0 hP1 aP1 yP1 n rec IH) C X (lv_sub hl [0, 1, 2, 4, 5, 7] rfl) hF
set_option maxHeartbeats 4000000 in
set_option maxRecDepth 100000 in
theorem k_X1_run_478 (l : Launch) (D : Dx) (hT : Nat) (aT : Nat → Nat) (yT : Nat → ClassId) (aT_0 : Nat → Nat) (yT_0 : Nat → ClassId) (aT_1 : Nat → Nat) (yT_1 : Nat → ClassId) (hP0 : Nat) (aP0 : Nat → Nat) (yP0 : Nat → ClassId) (hP1 : Nat) (aP1 : Nat → Nat) (yP1 : Nat → ClassId) (n : Nat) (rec : (Gs → Gs → Gs → Gs → Gs → Int32 → Int32 → Int32 → Option (Int32 × Gs))) (IH : SH_X1_run l D hT aT yT aT_0 yT_0 aT_1 yT_1 hP0 aP0 yP0 hP1 aP1 yP1 rec) : S_X1_run_478 l D hT aT yT aT_0 yT_0 aT_1 yT_1 hP0 aP0 yP0 hP1 aP1 yP1 (b_X1_run_478 n rec) := by
  intro p e s m args below meth c H locs A ls gT gT_0 gT_1 gP0 gP1 v5 v6 v8 q C X hl hF
  obtain ⟨hx, hb, hr, hml, hown, hts, hlk⟩ := id C
  unfold b_X1_run_478 at hF
  refine lv_goto (tgt := 546) hx hb dX1_run_478 (by decide) ?_
  exact (k_X1_run_546 l D hT aT yT aT_0 yT_0 aT_1 yT_1 hP0 aP0 yP0 hP1 aP1 yP1 n rec IH) C X (lv_sub hl [0, 1, 2, 3, 4, 5] rfl) hF
set_option maxHeartbeats 4000000 in
set_option maxRecDepth 100000 in
theorem k_X1_run_437 (l : Launch) (D : Dx) (hT : Nat) (aT : Nat → Nat) (yT : Nat → ClassId) (aT_0 : Nat → Nat) (yT_0 : Nat → ClassId) (aT_1 : Nat → Nat) (yT_1 : Nat → ClassId) (hP0 : Nat) (aP0 : Nat → Nat) (yP0 : Nat → ClassId) (hP1 : Nat) (aP1 : Nat → Nat) (yP1 : Nat → ClassId) (n : Nat) (rec : (Gs → Gs → Gs → Gs → Gs → Int32 → Int32 → Int32 → Option (Int32 × Gs))) (IH : SH_X1_run l D hT aT yT aT_0 yT_0 aT_1 yT_1 hP0 aP0 yP0 hP1 aP1 yP1 rec) : S_X1_run_437 l D hT aT yT aT_0 yT_0 aT_1 yT_1 hP0 aP0 yP0 hP1 aP1 yP1 (b_X1_run_437 n rec) := by
  intro p e s m args below meth c H locs A ls gT gT_0 gT_1 gP0 gP1 v4 v5 v6 v7 q C X hl hF
  obtain ⟨hx, hb, hr, hml, hown, hts, hlk⟩ := id C
  unfold b_X1_run_437 at hF
  refine lv_aload_n hx hb dX1_run_437 rfl (lv_at hl 0 rfl) ?_
  refine lv_aload_n hx hb dX1_run_438 rfl (lv_at hl 2 rfl) ?_
  refine lv_iload hx hb dX1_run_439 (lv_at hl 3 rfl) ?_
  refine lv_iload hx hb dX1_run_441 (lv_at hl 6 rfl) ?_
  obtain ⟨q_34, hc_35, hF⟩ := bnd_some hF
  refine cV_i (As := [.ref hP1, .int v4, .int v7]) (rest := []) C X (c_X1_skip l D hT aT yT hP1 aP1 yP1 gT gP1 v4 v7 q_34 hc_35 _) (cwV 3 hts (good_V q5_46 q5_48 q0_49 q1_4 q5_49) rfl rfl rfl (by decide +kernel) ⟨Nat.le_of_ble_eq_true rfl, Nat.le_of_ble_eq_true rfl⟩) (va_recv X.1 X.2.1 (ci := 1) (q0 := 0) rfl rfl) (X.1.sub (tys' := tX1 yT ++ (tX0 yP1)) [0, 1, 25, 26, 27, 28, 29, 30, 31, 32, 33, 34, 35, 36, 37, 38, 39] rfl) (X.2.1.sub (ws' := wX1 hT aT yT gT ++ (wX0 hP1 aP1 yP1 gP1)) [0, 1, 2, 29, 30, 31, 32, 33, 34, 35, 36, 37, 38, 39, 40, 41, 42, 43, 44] rfl) (X.2.2.1.sub (ws' := wX1 hT aT yT gT ++ (wX0 hP1 aP1 yP1 gP1)) [0, 1, 2, 29, 30, 31, 32, 33, 34, 35, 36, 37, 38, 39, 40, 41, 42, 43, 44] (by decide) rfl) (free_of (wC := wX1 hT aT yT gT ++ (wX0 hP1 aP1 yP1 gP1)) (isC := [0, 1, 2, 29, 30, 31, 32, 33, 34, 35, 36, 37, 38, 39, 40, 41, 42, 43, 44]) X rfl) hl.1 rfl rfl (Nat.le_of_ble_eq_true rfl) dX1_run_443 ⟨Nat.le_of_ble_eq_true rfl, Nat.le_of_ble_eq_true rfl⟩ (fun t H1 locs1 ht hB hk hS => ?_)
  have X : Hx D (tX1 yT ++ (tX6 yT_0 ++ (tX9 yT_1 ++ (tX4 yP0 ++ (tX0 yP1))))) A s H1 locs1 (wX1 hT aT yT q_34.2 ++ (wX6 (aT 0) aT_0 yT_0 gT_0 ++ (wX9 (aT 1) aT_1 yT_1 gT_1 ++ (wX4 hP0 aP0 yP0 gP0 ++ (wX0 hP1 aP1 yP1 gP1))))) := Hx_after (isC := [0, 1, 2, 29, 30, 31, 32, 33, 34, 35, 36, 37, 38, 39, 40, 41, 42, 43, 44]) (isR := [3, 4, 5, 6, 7, 8, 9, 10, 11, 12, 13, 14, 15, 16, 17, 18, 19, 20, 21, 22, 23, 24, 25, 26, 27, 28]) (pm := [26, 27, 28, 0, 1, 2, 3, 4, 5, 6, 7, 8, 9, 10, 11, 12, 13, 14, 15, 16, 17, 18, 19, 20, 21, 22, 23, 24, 25, 29, 30, 31, 32, 33, 34, 35, 36, 37, 38, 39, 40, 41, 42, 43, 44]) (wr := wX6 (aT 0) aT_0 yT_0 gT_0 ++ (wX9 (aT 1) aT_1 yT_1 gT_1 ++ (wX4 hP0 aP0 yP0 gP0))) X ⟨rfl, rfl, by decide, by decide, rfl, by decide⟩ ht hB hk hS
  clear hk hS ht hB
  generalize H1 = H at X ⊢
  generalize locs1 = locs at X ⊢
  refine lv_istore (lv' := [(8, .int q_34.1), (0, .ref hT), (1, .ref hP0), (2, .ref hP1), (4, .int v4), (5, .int v5), (6, .int v6), (7, .int v7)]) hx hb dX1_run_446 hl (by decide) rfl (fun ls hl => ?_)
  refine lv_goto (tgt := 546) hx hb dX1_run_448 (by decide) ?_
  exact (k_X1_run_546 l D hT aT yT aT_0 yT_0 aT_1 yT_1 hP0 aP0 yP0 hP1 aP1 yP1 n rec IH) C X (lv_sub hl [1, 2, 3, 5, 6, 0] rfl) hF
set_option maxHeartbeats 4000000 in
set_option maxRecDepth 100000 in
theorem k_X1_run_27 (l : Launch) (D : Dx) (hT : Nat) (aT : Nat → Nat) (yT : Nat → ClassId) (aT_0 : Nat → Nat) (yT_0 : Nat → ClassId) (aT_1 : Nat → Nat) (yT_1 : Nat → ClassId) (hP0 : Nat) (aP0 : Nat → Nat) (yP0 : Nat → ClassId) (hP1 : Nat) (aP1 : Nat → Nat) (yP1 : Nat → ClassId) (n : Nat) (rec : (Gs → Gs → Gs → Gs → Gs → Int32 → Int32 → Int32 → Option (Int32 × Gs))) (IH : SH_X1_run l D hT aT yT aT_0 yT_0 aT_1 yT_1 hP0 aP0 yP0 hP1 aP1 yP1 rec) : S_X1_run_27 l D hT aT yT aT_0 yT_0 aT_1 yT_1 hP0 aP0 yP0 hP1 aP1 yP1 (h_X1_run_27 n rec) := by
  intro p e s m args below meth c H locs A ls gT gT_0 gT_1 gP0 gP1 v4 v5 v6 q C X hl hF
  obtain ⟨hx, hb, hr, hml, hown, hts, hlk⟩ := id C
  unfold h_X1_run_27 at hF
  refine lv_iload hx hb dX1_run_27 (lv_at hl 5 rfl) ?_
  refine lv_sipush (v := (840 : Int32)) hx hb dX1_run_29 (by decide) ?_
  refine lv_icmp_ge (tgt := 558) hx hb dX1_run_32 (by decide) (fun c => ?_) (fun c => ?_)
  · replace hF := iT c hF
    exact (k_X1_run_558 l D hT aT yT aT_0 yT_0 aT_1 yT_1 hP0 aP0 yP0 hP1 aP1 yP1 n rec IH) C X (lv_sub hl [0] rfl) hF
  · replace hF := iF c hF
    refine lv_iload hx hb dX1_run_35 (lv_at hl 3 rfl) ?_
    refine lv_iload hx hb dX1_run_37 (lv_at hl 4 rfl) ?_
    refine lv_icmp_ge (tgt := 558) hx hb dX1_run_39 (by decide) (fun c => ?_) (fun c => ?_)
    · replace hF := iT c hF
      exact (k_X1_run_558 l D hT aT yT aT_0 yT_0 aT_1 yT_1 hP0 aP0 yP0 hP1 aP1 yP1 n rec IH) C X (lv_sub hl [0] rfl) hF
    · replace hF := iF c hF
      refine lv_aload_n hx hb dX1_run_42 rfl (lv_at hl 0 rfl) ?_
      refine va_get (D := D.1) (ci := 1) (v := .int (gI gT 5)) (C := RX1) (T := TX1) (N := 7) hx hb hts wi_X1 hown X.1 X.2.1 0 rfl rfl 5 (by decide) (hts _ q1_144) (fun _ h9 => h9) (fl_get (by decide)) dX1_run_43 ?_
      refine lv_if_ne (tgt := 558) hx hb dX1_run_46 (by decide) (fun c => ?_) (fun c => ?_)
      · replace hF := iF c hF
        exact (k_X1_run_558 l D hT aT yT aT_0 yT_0 aT_1 yT_1 hP0 aP0 yP0 hP1 aP1 yP1 n rec IH) C X (lv_sub hl [0] rfl) hF
      · replace hF := iT c hF
        refine lv_aload_n hx hb dX1_run_49 rfl (lv_at hl 2 rfl) ?_
        refine va_getN (D := D.1) (ci := 0) (v := .ref (aP1 0)) (C := RX0) (T := TX0) (N := 19) hx hb hts wi_X0 hown X.1 X.2.1 29 rfl rfl 0 (by decide) (X.2.2.2.2.2.1.use q1_209 rfl) (fun _ h9 => h9) (fl_get (by decide)) dX1_run_50 ?_
        refine lv_iload hx hb dX1_run_53 (lv_at hl 3 rfl) ?_
        obtain ⟨h_5, hF⟩ := grd_some hF
        refine va_iald (D := D.1) (f := gIA gP1 0) hx hb X.1 X.2.1 30 25 rfl rfl (inB_ok h_5) dX1_run_55 ?_
        refine lv_istore (lv' := [(7, .int (gIA gP1 0 v4.toNatClampNeg)), (0, .ref hT), (1, .ref hP0), (2, .ref hP1), (4, .int v4), (5, .int v5), (6, .int v6)]) hx hb dX1_run_56 hl (by decide) rfl (fun ls hl => ?_)
        refine lv_iload hx hb dX1_run_58 (lv_at hl 4 rfl) ?_
        refine lv_istore (lv' := [(8, .int v4), (7, .int (gIA gP1 0 v4.toNatClampNeg)), (0, .ref hT), (1, .ref hP0), (2, .ref hP1), (4, .int v4), (5, .int v5), (6, .int v6)]) hx hb dX1_run_60 hl (by decide) rfl (fun ls hl => ?_)
        refine lv_aload_n hx hb dX1_run_62 rfl (lv_at hl 2 rfl) ?_
        refine lv_aload_n hx hb dX1_run_63 rfl (lv_at hl 4 rfl) ?_
        refine va_getN (D := D.1) (ci := 0) (v := .ref (aP1 1)) (C := RX0) (T := TX0) (N := 19) hx hb hts wi_X0 hown X.1 X.2.1 29 rfl rfl 1 (by decide) (X.2.2.2.2.2.1.use q1_213 rfl) (fun _ h9 => h9) (fl_get (by decide)) dX1_run_64 ?_
        refine lv_iload hx hb dX1_run_67 (lv_at hl 5 rfl) ?_
        obtain ⟨h_6, hF⟩ := grd_some hF
        refine va_iald (D := D.1) (f := gIA gP1 1) hx hb X.1 X.2.1 31 26 rfl rfl (inB_ok h_6) dX1_run_69 ?_
        refine va_put (D := D.1) (ci := 1) (v := .int (gIA gP1 1 v4.toNatClampNeg)) (ty := .int) (C := RX1) (T := TX1) (N := 7) hx hb hts wi_X1 tyX1 tyX1_ok nmX1 hown X.1 X.2.1 X.2.2.1 X.2.2.2.1 0 rfl rfl 6 (by decide) (hts _ q1_146) (fun _ h9 => h9) rfl (by decide +kernel) rfl rfl (by rw [List.length_map, List.length_range]; decide) dX1_run_70 (fun H locs hP hD hS => ?_)
        have X : Hx D (tX1 yT ++ (tX6 yT_0 ++ (tX9 yT_1 ++ (tX4 yP0 ++ (tX0 yP1))))) A s H locs (wX1 hT aT yT (sI gT 6 (gIA gP1 1 v4.toNatClampNeg)) ++ (wX6 (aT 0) aT_0 yT_0 gT_0 ++ (wX9 (aT 1) aT_1 yT_1 gT_1 ++ (wX4 hP0 aP0 yP0 gP0 ++ (wX0 hP1 aP1 yP1 gP1))))) := Hx_set X (set_l (by rw [wG_len (m := 3) rfl]; decide) (wG_sI (k := 6) rfl)) hP hD hS
        refine lv_iload hx hb dX1_run_73 (lv_at hl 1 rfl) ?_
        by_cases c3 : (gIA gP1 0 v4.toNatClampNeg) = (3 : Int32)
        · replace hF := iT c3 hF
          refine lv_tableIn (tgt := 360) (off := 285) hx hb dX1_run_75 (by rw [c3]; decide) (by rw [c3]; decide) (by rw [c3]; rfl) (by decide) ?_
          refine lv_aload_n hx hb dX1_run_360 rfl (lv_at hl 2 rfl) ?_
          refine lv_aload_n hx hb dX1_run_361 rfl (lv_at hl 4 rfl) ?_
          refine va_getN (D := D.1) (ci := 0) (v := .ref (aP1 6)) (C := RX0) (T := TX0) (N := 19) hx hb hts wi_X0 hown X.1 X.2.1 29 rfl rfl 6 (by decide) (X.2.2.2.2.2.1.use q1_232 rfl) (fun _ h9 => h9) (fl_get (by decide)) dX1_run_362 ?_
          refine lv_iload hx hb dX1_run_365 (lv_at hl 5 rfl) ?_
          obtain ⟨h_7, hF⟩ := grd_some hF
          refine va_lald (D := D.1) (f := gLA gP1 6) hx hb X.1 X.2.1 36 31 rfl rfl (inB_ok h_7) dX1_run_367 ?_
          refine lv_aload_n hx hb dX1_run_368 rfl (lv_at hl 4 rfl) ?_
          refine va_getN (D := D.1) (ci := 0) (v := .ref (aP1 7)) (C := RX0) (T := TX0) (N := 19) hx hb hts wi_X0 hown X.1 X.2.1 29 rfl rfl 7 (by decide) (X.2.2.2.2.2.1.use q1_235 rfl) (fun _ h9 => h9) (fl_get (by decide)) dX1_run_369 ?_
          refine lv_iload hx hb dX1_run_372 (lv_at hl 5 rfl) ?_
          obtain ⟨h_8, hF⟩ := grd_some hF
          refine va_dald (D := D.1) (f := gDA gP1 7) hx hb X.1 X.2.1 37 32 rfl rfl (inB_ok h_8) dX1_run_374 ?_
          obtain ⟨q_9, hc_10, hF⟩ := bnd_some hF
          refine cV_v (As := [.long (gLA gP1 6 v4.toNatClampNeg), .double (gDA gP1 7 v4.toNatClampNeg)]) (rest := []) C X (c_X1_push l D hT aT yT (sI gT 6 (gIA gP1 1 v4.toNatClampNeg)) (gLA gP1 6 v4.toNatClampNeg) (gDA gP1 7 v4.toNatClampNeg) q_9 hc_10 _) (cwV 2 hts (good_V q5_38 q5_40 q0_47 q1_4 q5_41) rfl rfl rfl (by decide +kernel) ⟨Nat.le_of_ble_eq_true rfl, Nat.le_of_ble_eq_true rfl⟩) (va_recv X.1 X.2.1 (ci := 1) (q0 := 0) rfl rfl) (X.1.sub (tys' := tX1 yT) [0, 1] rfl) (X.2.1.sub (ws' := wX1 hT aT yT (sI gT 6 (gIA gP1 1 v4.toNatClampNeg))) [0, 1, 2] rfl) (X.2.2.1.sub (ws' := wX1 hT aT yT (sI gT 6 (gIA gP1 1 v4.toNatClampNeg))) [0, 1, 2] (by decide) rfl) (free_of (wC := wX1 hT aT yT (sI gT 6 (gIA gP1 1 v4.toNatClampNeg))) (isC := [0, 1, 2]) X rfl) hl.1 rfl rfl (Nat.le_of_ble_eq_true rfl) dX1_run_375 ⟨Nat.le_of_ble_eq_true rfl, Nat.le_of_ble_eq_true rfl⟩ (fun t H1 locs1 ht hB hk hS => ?_)
          have X : Hx D (tX1 yT ++ (tX6 yT_0 ++ (tX9 yT_1 ++ (tX4 yP0 ++ (tX0 yP1))))) A s H1 locs1 (wX1 hT aT yT q_9 ++ (wX6 (aT 0) aT_0 yT_0 gT_0 ++ (wX9 (aT 1) aT_1 yT_1 gT_1 ++ (wX4 hP0 aP0 yP0 gP0 ++ (wX0 hP1 aP1 yP1 gP1))))) := Hx_after (isC := [0, 1, 2]) (isR := [3, 4, 5, 6, 7, 8, 9, 10, 11, 12, 13, 14, 15, 16, 17, 18, 19, 20, 21, 22, 23, 24, 25, 26, 27, 28, 29, 30, 31, 32, 33, 34, 35, 36, 37, 38, 39, 40, 41, 42, 43, 44]) (pm := [42, 43, 44, 0, 1, 2, 3, 4, 5, 6, 7, 8, 9, 10, 11, 12, 13, 14, 15, 16, 17, 18, 19, 20, 21, 22, 23, 24, 25, 26, 27, 28, 29, 30, 31, 32, 33, 34, 35, 36, 37, 38, 39, 40, 41]) (wr := wX6 (aT 0) aT_0 yT_0 gT_0 ++ (wX9 (aT 1) aT_1 yT_1 gT_1 ++ (wX4 hP0 aP0 yP0 gP0 ++ (wX0 hP1 aP1 yP1 gP1)))) X ⟨rfl, rfl, by decide, by decide, rfl, by decide⟩ ht hB hk hS
          clear hk hS ht hB
          generalize H1 = H at X ⊢
          generalize locs1 = locs at X ⊢
          refine lv_goto (tgt := 546) hx hb dX1_run_378 (by decide) ?_
          exact (k_X1_run_546 l D hT aT yT aT_0 yT_0 aT_1 yT_1 hP0 aP0 yP0 hP1 aP1 yP1 n rec IH) C X (lv_sub hl [2, 3, 4, 6, 7, 0] rfl) hF
        · replace hF := iF c3 hF
          by_cases c4 : (gIA gP1 0 v4.toNatClampNeg) = (4 : Int32)
          · replace hF := iT c4 hF
            refine lv_tableIn (tgt := 519) (off := 444) hx hb dX1_run_75 (by rw [c4]; decide) (by rw [c4]; decide) (by rw [c4]; rfl) (by decide) ?_
            exact (k_X1_run_519 l D hT aT yT aT_0 yT_0 aT_1 yT_1 hP0 aP0 yP0 hP1 aP1 yP1 n rec IH) C X (lv_sub hl [2, 3, 4, 5, 6, 7, 1, 0] rfl) hF
          · replace hF := iF c4 hF
            by_cases c5 : (gIA gP1 0 v4.toNatClampNeg) = (5 : Int32)
            · replace hF := iT c5 hF
              refine lv_tableIn (tgt := 519) (off := 444) hx hb dX1_run_75 (by rw [c5]; decide) (by rw [c5]; decide) (by rw [c5]; rfl) (by decide) ?_
              exact (k_X1_run_519 l D hT aT yT aT_0 yT_0 aT_1 yT_1 hP0 aP0 yP0 hP1 aP1 yP1 n rec IH) C X (lv_sub hl [2, 3, 4, 5, 6, 7, 1, 0] rfl) hF
            · replace hF := iF c5 hF
              by_cases c6 : (gIA gP1 0 v4.toNatClampNeg) = (6 : Int32)
              · replace hF := iT c6 hF
                refine lv_tableIn (tgt := 519) (off := 444) hx hb dX1_run_75 (by rw [c6]; decide) (by rw [c6]; decide) (by rw [c6]; rfl) (by decide) ?_
                exact (k_X1_run_519 l D hT aT yT aT_0 yT_0 aT_1 yT_1 hP0 aP0 yP0 hP1 aP1 yP1 n rec IH) C X (lv_sub hl [2, 3, 4, 5, 6, 7, 1, 0] rfl) hF
              · replace hF := iF c6 hF
                by_cases c7 : (gIA gP1 0 v4.toNatClampNeg) = (7 : Int32)
                · replace hF := iT c7 hF
                  refine lv_tableIn (tgt := 519) (off := 444) hx hb dX1_run_75 (by rw [c7]; decide) (by rw [c7]; decide) (by rw [c7]; rfl) (by decide) ?_
                  exact (k_X1_run_519 l D hT aT yT aT_0 yT_0 aT_1 yT_1 hP0 aP0 yP0 hP1 aP1 yP1 n rec IH) C X (lv_sub hl [2, 3, 4, 5, 6, 7, 1, 0] rfl) hF
                · replace hF := iF c7 hF
                  by_cases c8 : (gIA gP1 0 v4.toNatClampNeg) = (8 : Int32)
                  · replace hF := iT c8 hF
                    refine lv_tableIn (tgt := 519) (off := 444) hx hb dX1_run_75 (by rw [c8]; decide) (by rw [c8]; decide) (by rw [c8]; rfl) (by decide) ?_
                    exact (k_X1_run_519 l D hT aT yT aT_0 yT_0 aT_1 yT_1 hP0 aP0 yP0 hP1 aP1 yP1 n rec IH) C X (lv_sub hl [2, 3, 4, 5, 6, 7, 1, 0] rfl) hF
                  · replace hF := iF c8 hF
                    by_cases c9 : (gIA gP1 0 v4.toNatClampNeg) = (9 : Int32)
                    · replace hF := iT c9 hF
                      refine lv_tableIn (tgt := 519) (off := 444) hx hb dX1_run_75 (by rw [c9]; decide) (by rw [c9]; decide) (by rw [c9]; rfl) (by decide) ?_
                      exact (k_X1_run_519 l D hT aT yT aT_0 yT_0 aT_1 yT_1 hP0 aP0 yP0 hP1 aP1 yP1 n rec IH) C X (lv_sub hl [2, 3, 4, 5, 6, 7, 1, 0] rfl) hF
                    · replace hF := iF c9 hF
                      by_cases c10 : (gIA gP1 0 v4.toNatClampNeg) = (10 : Int32)
                      · replace hF := iT c10 hF
                        refine lv_tableIn (tgt := 519) (off := 444) hx hb dX1_run_75 (by rw [c10]; decide) (by rw [c10]; decide) (by rw [c10]; rfl) (by decide) ?_
                        exact (k_X1_run_519 l D hT aT yT aT_0 yT_0 aT_1 yT_1 hP0 aP0 yP0 hP1 aP1 yP1 n rec IH) C X (lv_sub hl [2, 3, 4, 5, 6, 7, 1, 0] rfl) hF
                      · replace hF := iF c10 hF
                        by_cases c11 : (gIA gP1 0 v4.toNatClampNeg) = (11 : Int32)
                        · replace hF := iT c11 hF
                          refine lv_tableIn (tgt := 519) (off := 444) hx hb dX1_run_75 (by rw [c11]; decide) (by rw [c11]; decide) (by rw [c11]; rfl) (by decide) ?_
                          exact (k_X1_run_519 l D hT aT yT aT_0 yT_0 aT_1 yT_1 hP0 aP0 yP0 hP1 aP1 yP1 n rec IH) C X (lv_sub hl [2, 3, 4, 5, 6, 7, 1, 0] rfl) hF
                        · replace hF := iF c11 hF
                          by_cases c12 : (gIA gP1 0 v4.toNatClampNeg) = (12 : Int32)
                          · replace hF := iT c12 hF
                            refine lv_tableIn (tgt := 519) (off := 444) hx hb dX1_run_75 (by rw [c12]; decide) (by rw [c12]; decide) (by rw [c12]; rfl) (by decide) ?_
                            exact (k_X1_run_519 l D hT aT yT aT_0 yT_0 aT_1 yT_1 hP0 aP0 yP0 hP1 aP1 yP1 n rec IH) C X (lv_sub hl [2, 3, 4, 5, 6, 7, 1, 0] rfl) hF
                          · replace hF := iF c12 hF
                            by_cases c13 : (gIA gP1 0 v4.toNatClampNeg) = (13 : Int32)
                            · replace hF := iT c13 hF
                              refine lv_tableIn (tgt := 519) (off := 444) hx hb dX1_run_75 (by rw [c13]; decide) (by rw [c13]; decide) (by rw [c13]; rfl) (by decide) ?_
                              exact (k_X1_run_519 l D hT aT yT aT_0 yT_0 aT_1 yT_1 hP0 aP0 yP0 hP1 aP1 yP1 n rec IH) C X (lv_sub hl [2, 3, 4, 5, 6, 7, 1, 0] rfl) hF
                            · replace hF := iF c13 hF
                              by_cases c14 : (gIA gP1 0 v4.toNatClampNeg) = (14 : Int32)
                              · replace hF := iT c14 hF
                                refine lv_tableIn (tgt := 519) (off := 444) hx hb dX1_run_75 (by rw [c14]; decide) (by rw [c14]; decide) (by rw [c14]; rfl) (by decide) ?_
                                exact (k_X1_run_519 l D hT aT yT aT_0 yT_0 aT_1 yT_1 hP0 aP0 yP0 hP1 aP1 yP1 n rec IH) C X (lv_sub hl [2, 3, 4, 5, 6, 7, 1, 0] rfl) hF
                              · replace hF := iF c14 hF
                                by_cases c15 : (gIA gP1 0 v4.toNatClampNeg) = (15 : Int32)
                                · replace hF := iT c15 hF
                                  refine lv_tableIn (tgt := 519) (off := 444) hx hb dX1_run_75 (by rw [c15]; decide) (by rw [c15]; decide) (by rw [c15]; rfl) (by decide) ?_
                                  exact (k_X1_run_519 l D hT aT yT aT_0 yT_0 aT_1 yT_1 hP0 aP0 yP0 hP1 aP1 yP1 n rec IH) C X (lv_sub hl [2, 3, 4, 5, 6, 7, 1, 0] rfl) hF
                                · replace hF := iF c15 hF
                                  by_cases c16 : (gIA gP1 0 v4.toNatClampNeg) = (16 : Int32)
                                  · replace hF := iT c16 hF
                                    refine lv_tableIn (tgt := 411) (off := 336) hx hb dX1_run_75 (by rw [c16]; decide) (by rw [c16]; decide) (by rw [c16]; rfl) (by decide) ?_
                                    exact (k_X1_run_411 l D hT aT yT aT_0 yT_0 aT_1 yT_1 hP0 aP0 yP0 hP1 aP1 yP1 n rec IH) C X (lv_sub hl [2, 3, 4, 5, 6, 7, 1, 0] rfl) hF
                                  · replace hF := iF c16 hF
                                    by_cases c17 : (gIA gP1 0 v4.toNatClampNeg) = (17 : Int32)
                                    · replace hF := iT c17 hF
                                      refine lv_tableIn (tgt := 396) (off := 321) hx hb dX1_run_75 (by rw [c17]; decide) (by rw [c17]; decide) (by rw [c17]; rfl) (by decide) ?_
                                      refine lv_aload_n hx hb dX1_run_396 rfl (lv_at hl 2 rfl) ?_
                                      refine lv_lconst (v := (0 : Int64)) hx hb dX1_run_397 (by decide) ?_
                                      refine lv_aload_n hx hb dX1_run_398 rfl (lv_at hl 2 rfl) ?_
                                      refine va_get (D := D.1) (ci := 1) (v := .ref (aT 1)) (C := RX1) (T := TX1) (N := 7) hx hb hts wi_X1 hown X.1 X.2.1 0 rfl rfl 1 (by decide) (hts _ q1_138) (fun _ h9 => h9) (fl_get (by decide)) dX1_run_399 ?_
                                      refine va_getN (D := D.1) (ci := 9) (v := .double (gD gT_1 15)) (C := RX9) (T := TX9) (N := 17) hx hb hts wi_X9 hown X.1 X.2.1 5 rfl rfl 15 (by decide) (X.2.2.2.2.2.1.use q1_90 rfl) (fun _ h9 => h9) (fl_get (by decide)) dX1_run_402 ?_
                                      obtain ⟨q_19, hc_20, hF⟩ := bnd_some hF
                                      refine cV_v (As := [.long (0 : Int64), .double (gD gT_1 15)]) (rest := []) C X (c_X1_push l D hT aT yT (sI gT 6 (gIA gP1 1 v4.toNatClampNeg)) (0 : Int64) (gD gT_1 15) q_19 hc_20 _) (cwV 2 hts (good_V q5_38 q5_40 q0_47 q1_4 q5_41) rfl rfl rfl (by decide +kernel) ⟨Nat.le_of_ble_eq_true rfl, Nat.le_of_ble_eq_true rfl⟩) (va_recv X.1 X.2.1 (ci := 1) (q0 := 0) rfl rfl) (X.1.sub (tys' := tX1 yT) [0, 1] rfl) (X.2.1.sub (ws' := wX1 hT aT yT (sI gT 6 (gIA gP1 1 v4.toNatClampNeg))) [0, 1, 2] rfl) (X.2.2.1.sub (ws' := wX1 hT aT yT (sI gT 6 (gIA gP1 1 v4.toNatClampNeg))) [0, 1, 2] (by decide) rfl) (free_of (wC := wX1 hT aT yT (sI gT 6 (gIA gP1 1 v4.toNatClampNeg))) (isC := [0, 1, 2]) X rfl) hl.1 rfl rfl (Nat.le_of_ble_eq_true rfl) dX1_run_405 ⟨Nat.le_of_ble_eq_true rfl, Nat.le_of_ble_eq_true rfl⟩ (fun t H1 locs1 ht hB hk hS => ?_)
                                      have X : Hx D (tX1 yT ++ (tX6 yT_0 ++ (tX9 yT_1 ++ (tX4 yP0 ++ (tX0 yP1))))) A s H1 locs1 (wX1 hT aT yT q_19 ++ (wX6 (aT 0) aT_0 yT_0 gT_0 ++ (wX9 (aT 1) aT_1 yT_1 gT_1 ++ (wX4 hP0 aP0 yP0 gP0 ++ (wX0 hP1 aP1 yP1 gP1))))) := Hx_after (isC := [0, 1, 2]) (isR := [3, 4, 5, 6, 7, 8, 9, 10, 11, 12, 13, 14, 15, 16, 17, 18, 19, 20, 21, 22, 23, 24, 25, 26, 27, 28, 29, 30, 31, 32, 33, 34, 35, 36, 37, 38, 39, 40, 41, 42, 43, 44]) (pm := [42, 43, 44, 0, 1, 2, 3, 4, 5, 6, 7, 8, 9, 10, 11, 12, 13, 14, 15, 16, 17, 18, 19, 20, 21, 22, 23, 24, 25, 26, 27, 28, 29, 30, 31, 32, 33, 34, 35, 36, 37, 38, 39, 40, 41]) (wr := wX6 (aT 0) aT_0 yT_0 gT_0 ++ (wX9 (aT 1) aT_1 yT_1 gT_1 ++ (wX4 hP0 aP0 yP0 gP0 ++ (wX0 hP1 aP1 yP1 gP1)))) X ⟨rfl, rfl, by decide, by decide, rfl, by decide⟩ ht hB hk hS
                                      clear hk hS ht hB
                                      generalize H1 = H at X ⊢
                                      generalize locs1 = locs at X ⊢
                                      refine lv_goto (tgt := 546) hx hb dX1_run_408 (by decide) ?_
                                      exact (k_X1_run_546 l D hT aT yT aT_0 yT_0 aT_1 yT_1 hP0 aP0 yP0 hP1 aP1 yP1 n rec IH) C X (lv_sub hl [2, 3, 4, 6, 7, 0] rfl) hF
                                    · replace hF := iF c17 hF
                                      by_cases c18 : (gIA gP1 0 v4.toNatClampNeg) = (18 : Int32)
                                      · replace hF := iT c18 hF
                                        refine lv_tableIn (tgt := 381) (off := 306) hx hb dX1_run_75 (by rw [c18]; decide) (by rw [c18]; decide) (by rw [c18]; rfl) (by decide) ?_
                                        refine lv_aload_n hx hb dX1_run_381 rfl (lv_at hl 2 rfl) ?_
                                        refine lv_aload_n hx hb dX1_run_382 rfl (lv_at hl 2 rfl) ?_
                                        refine va_get (D := D.1) (ci := 1) (v := .ref (aT 1)) (C := RX1) (T := TX1) (N := 7) hx hb hts wi_X1 hown X.1 X.2.1 0 rfl rfl 1 (by decide) (hts _ q1_138) (fun _ h9 => h9) (fl_get (by decide)) dX1_run_383 ?_
                                        refine va_getN (D := D.1) (ci := 9) (v := .long (gL gT_1 14)) (C := RX9) (T := TX9) (N := 17) hx hb hts wi_X9 hown X.1 X.2.1 5 rfl rfl 14 (by decide) (X.2.2.2.2.2.1.use q1_86 rfl) (fun _ h9 => h9) (fl_get (by decide)) dX1_run_386 ?_
                                        refine lv_dconst0 hx hb dX1_run_389 ?_
                                        obtain ⟨q_21, hc_22, hF⟩ := bnd_some hF
                                        refine cV_v (As := [.long (gL gT_1 14), .double FP.dconst0]) (rest := []) C X (c_X1_push l D hT aT yT (sI gT 6 (gIA gP1 1 v4.toNatClampNeg)) (gL gT_1 14) FP.dconst0 q_21 hc_22 _) (cwV 2 hts (good_V q5_38 q5_40 q0_47 q1_4 q5_41) rfl rfl rfl (by decide +kernel) ⟨Nat.le_of_ble_eq_true rfl, Nat.le_of_ble_eq_true rfl⟩) (va_recv X.1 X.2.1 (ci := 1) (q0 := 0) rfl rfl) (X.1.sub (tys' := tX1 yT) [0, 1] rfl) (X.2.1.sub (ws' := wX1 hT aT yT (sI gT 6 (gIA gP1 1 v4.toNatClampNeg))) [0, 1, 2] rfl) (X.2.2.1.sub (ws' := wX1 hT aT yT (sI gT 6 (gIA gP1 1 v4.toNatClampNeg))) [0, 1, 2] (by decide) rfl) (free_of (wC := wX1 hT aT yT (sI gT 6 (gIA gP1 1 v4.toNatClampNeg))) (isC := [0, 1, 2]) X rfl) hl.1 rfl rfl (Nat.le_of_ble_eq_true rfl) dX1_run_390 ⟨Nat.le_of_ble_eq_true rfl, Nat.le_of_ble_eq_true rfl⟩ (fun t H1 locs1 ht hB hk hS => ?_)
                                        have X : Hx D (tX1 yT ++ (tX6 yT_0 ++ (tX9 yT_1 ++ (tX4 yP0 ++ (tX0 yP1))))) A s H1 locs1 (wX1 hT aT yT q_21 ++ (wX6 (aT 0) aT_0 yT_0 gT_0 ++ (wX9 (aT 1) aT_1 yT_1 gT_1 ++ (wX4 hP0 aP0 yP0 gP0 ++ (wX0 hP1 aP1 yP1 gP1))))) := Hx_after (isC := [0, 1, 2]) (isR := [3, 4, 5, 6, 7, 8, 9, 10, 11, 12, 13, 14, 15, 16, 17, 18, 19, 20, 21, 22, 23, 24, 25, 26, 27, 28, 29, 30, 31, 32, 33, 34, 35, 36, 37, 38, 39, 40, 41, 42, 43, 44]) (pm := [42, 43, 44, 0, 1, 2, 3, 4, 5, 6, 7, 8, 9, 10, 11, 12, 13, 14, 15, 16, 17, 18, 19, 20, 21, 22, 23, 24, 25, 26, 27, 28, 29, 30, 31, 32, 33, 34, 35, 36, 37, 38, 39, 40, 41]) (wr := wX6 (aT 0) aT_0 yT_0 gT_0 ++ (wX9 (aT 1) aT_1 yT_1 gT_1 ++ (wX4 hP0 aP0 yP0 gP0 ++ (wX0 hP1 aP1 yP1 gP1)))) X ⟨rfl, rfl, by decide, by decide, rfl, by decide⟩ ht hB hk hS
                                        clear hk hS ht hB
                                        generalize H1 = H at X ⊢
                                        generalize locs1 = locs at X ⊢
                                        refine lv_goto (tgt := 546) hx hb dX1_run_393 (by decide) ?_
                                        exact (k_X1_run_546 l D hT aT yT aT_0 yT_0 aT_1 yT_1 hP0 aP0 yP0 hP1 aP1 yP1 n rec IH) C X (lv_sub hl [2, 3, 4, 6, 7, 0] rfl) hF
                                      · replace hF := iF c18 hF
                                        by_cases c19 : (gIA gP1 0 v4.toNatClampNeg) = (19 : Int32)
                                        · replace hF := iT c19 hF
                                          refine lv_tableIn (tgt := 496) (off := 421) hx hb dX1_run_75 (by rw [c19]; decide) (by rw [c19]; decide) (by rw [c19]; rfl) (by decide) ?_
                                          exact (k_X1_run_496 l D hT aT yT aT_0 yT_0 aT_1 yT_1 hP0 aP0 yP0 hP1 aP1 yP1 n rec IH) C X (lv_sub hl [2, 3, 4, 5, 6, 7, 1, 0] rfl) hF
                                        · replace hF := iF c19 hF
                                          by_cases c20 : (gIA gP1 0 v4.toNatClampNeg) = (20 : Int32)
                                          · replace hF := iT c20 hF
                                            refine lv_tableIn (tgt := 496) (off := 421) hx hb dX1_run_75 (by rw [c20]; decide) (by rw [c20]; decide) (by rw [c20]; rfl) (by decide) ?_
                                            exact (k_X1_run_496 l D hT aT yT aT_0 yT_0 aT_1 yT_1 hP0 aP0 yP0 hP1 aP1 yP1 n rec IH) C X (lv_sub hl [2, 3, 4, 5, 6, 7, 1, 0] rfl) hF
                                          · replace hF := iF c20 hF
                                            by_cases c21 : (gIA gP1 0 v4.toNatClampNeg) = (21 : Int32)
                                            · replace hF := iT c21 hF
                                              refine lv_tableIn (tgt := 496) (off := 421) hx hb dX1_run_75 (by rw [c21]; decide) (by rw [c21]; decide) (by rw [c21]; rfl) (by decide) ?_
                                              exact (k_X1_run_496 l D hT aT yT aT_0 yT_0 aT_1 yT_1 hP0 aP0 yP0 hP1 aP1 yP1 n rec IH) C X (lv_sub hl [2, 3, 4, 5, 6, 7, 1, 0] rfl) hF
                                            · replace hF := iF c21 hF
                                              by_cases c22 : (gIA gP1 0 v4.toNatClampNeg) = (22 : Int32)
                                              · replace hF := iT c22 hF
                                                refine lv_tableIn (tgt := 496) (off := 421) hx hb dX1_run_75 (by rw [c22]; decide) (by rw [c22]; decide) (by rw [c22]; rfl) (by decide) ?_
                                                exact (k_X1_run_496 l D hT aT yT aT_0 yT_0 aT_1 yT_1 hP0 aP0 yP0 hP1 aP1 yP1 n rec IH) C X (lv_sub hl [2, 3, 4, 5, 6, 7, 1, 0] rfl) hF
                                              · replace hF := iF c22 hF
                                                by_cases c23 : (gIA gP1 0 v4.toNatClampNeg) = (23 : Int32)
                                                · replace hF := iT c23 hF
                                                  refine lv_tableIn (tgt := 519) (off := 444) hx hb dX1_run_75 (by rw [c23]; decide) (by rw [c23]; decide) (by rw [c23]; rfl) (by decide) ?_
                                                  exact (k_X1_run_519 l D hT aT yT aT_0 yT_0 aT_1 yT_1 hP0 aP0 yP0 hP1 aP1 yP1 n rec IH) C X (lv_sub hl [2, 3, 4, 5, 6, 7, 1, 0] rfl) hF
                                                · replace hF := iF c23 hF
                                                  by_cases c24 : (gIA gP1 0 v4.toNatClampNeg) = (24 : Int32)
                                                  · replace hF := iT c24 hF
                                                    refine lv_tableIn (tgt := 519) (off := 444) hx hb dX1_run_75 (by rw [c24]; decide) (by rw [c24]; decide) (by rw [c24]; rfl) (by decide) ?_
                                                    exact (k_X1_run_519 l D hT aT yT aT_0 yT_0 aT_1 yT_1 hP0 aP0 yP0 hP1 aP1 yP1 n rec IH) C X (lv_sub hl [2, 3, 4, 5, 6, 7, 1, 0] rfl) hF
                                                  · replace hF := iF c24 hF
                                                    by_cases c25 : (gIA gP1 0 v4.toNatClampNeg) = (25 : Int32)
                                                    · replace hF := iT c25 hF
                                                      refine lv_tableIn (tgt := 519) (off := 444) hx hb dX1_run_75 (by rw [c25]; decide) (by rw [c25]; decide) (by rw [c25]; rfl) (by decide) ?_
                                                      exact (k_X1_run_519 l D hT aT yT aT_0 yT_0 aT_1 yT_1 hP0 aP0 yP0 hP1 aP1 yP1 n rec IH) C X (lv_sub hl [2, 3, 4, 5, 6, 7, 1, 0] rfl) hF
                                                    · replace hF := iF c25 hF
                                                      by_cases c26 : (gIA gP1 0 v4.toNatClampNeg) = (26 : Int32)
                                                      · replace hF := iT c26 hF
                                                        refine lv_tableIn (tgt := 519) (off := 444) hx hb dX1_run_75 (by rw [c26]; decide) (by rw [c26]; decide) (by rw [c26]; rfl) (by decide) ?_
                                                        exact (k_X1_run_519 l D hT aT yT aT_0 yT_0 aT_1 yT_1 hP0 aP0 yP0 hP1 aP1 yP1 n rec IH) C X (lv_sub hl [2, 3, 4, 5, 6, 7, 1, 0] rfl) hF
                                                      · replace hF := iF c26 hF
                                                        by_cases c27 : (gIA gP1 0 v4.toNatClampNeg) = (27 : Int32)
                                                        · replace hF := iT c27 hF
                                                          refine lv_tableIn (tgt := 519) (off := 444) hx hb dX1_run_75 (by rw [c27]; decide) (by rw [c27]; decide) (by rw [c27]; rfl) (by decide) ?_
                                                          exact (k_X1_run_519 l D hT aT yT aT_0 yT_0 aT_1 yT_1 hP0 aP0 yP0 hP1 aP1 yP1 n rec IH) C X (lv_sub hl [2, 3, 4, 5, 6, 7, 1, 0] rfl) hF
                                                        · replace hF := iF c27 hF
                                                          by_cases c28 : (gIA gP1 0 v4.toNatClampNeg) = (28 : Int32)
                                                          · replace hF := iT c28 hF
                                                            refine lv_tableIn (tgt := 519) (off := 444) hx hb dX1_run_75 (by rw [c28]; decide) (by rw [c28]; decide) (by rw [c28]; rfl) (by decide) ?_
                                                            exact (k_X1_run_519 l D hT aT yT aT_0 yT_0 aT_1 yT_1 hP0 aP0 yP0 hP1 aP1 yP1 n rec IH) C X (lv_sub hl [2, 3, 4, 5, 6, 7, 1, 0] rfl) hF
                                                          · replace hF := iF c28 hF
                                                            by_cases c29 : (gIA gP1 0 v4.toNatClampNeg) = (29 : Int32)
                                                            · replace hF := iT c29 hF
                                                              refine lv_tableIn (tgt := 519) (off := 444) hx hb dX1_run_75 (by rw [c29]; decide) (by rw [c29]; decide) (by rw [c29]; rfl) (by decide) ?_
                                                              exact (k_X1_run_519 l D hT aT yT aT_0 yT_0 aT_1 yT_1 hP0 aP0 yP0 hP1 aP1 yP1 n rec IH) C X (lv_sub hl [2, 3, 4, 5, 6, 7, 1, 0] rfl) hF
                                                            · replace hF := iF c29 hF
                                                              by_cases c30 : (gIA gP1 0 v4.toNatClampNeg) = (30 : Int32)
                                                              · replace hF := iT c30 hF
                                                                refine lv_tableIn (tgt := 519) (off := 444) hx hb dX1_run_75 (by rw [c30]; decide) (by rw [c30]; decide) (by rw [c30]; rfl) (by decide) ?_
                                                                exact (k_X1_run_519 l D hT aT yT aT_0 yT_0 aT_1 yT_1 hP0 aP0 yP0 hP1 aP1 yP1 n rec IH) C X (lv_sub hl [2, 3, 4, 5, 6, 7, 1, 0] rfl) hF
                                                              · replace hF := iF c30 hF
                                                                by_cases c31 : (gIA gP1 0 v4.toNatClampNeg) = (31 : Int32)
                                                                · replace hF := iT c31 hF
                                                                  refine lv_tableIn (tgt := 519) (off := 444) hx hb dX1_run_75 (by rw [c31]; decide) (by rw [c31]; decide) (by rw [c31]; rfl) (by decide) ?_
                                                                  exact (k_X1_run_519 l D hT aT yT aT_0 yT_0 aT_1 yT_1 hP0 aP0 yP0 hP1 aP1 yP1 n rec IH) C X (lv_sub hl [2, 3, 4, 5, 6, 7, 1, 0] rfl) hF
                                                                · replace hF := iF c31 hF
                                                                  by_cases c32 : (gIA gP1 0 v4.toNatClampNeg) = (32 : Int32)
                                                                  · replace hF := iT c32 hF
                                                                    refine lv_tableIn (tgt := 519) (off := 444) hx hb dX1_run_75 (by rw [c32]; decide) (by rw [c32]; decide) (by rw [c32]; rfl) (by decide) ?_
                                                                    exact (k_X1_run_519 l D hT aT yT aT_0 yT_0 aT_1 yT_1 hP0 aP0 yP0 hP1 aP1 yP1 n rec IH) C X (lv_sub hl [2, 3, 4, 5, 6, 7, 1, 0] rfl) hF
                                                                  · replace hF := iF c32 hF
                                                                    by_cases c33 : (gIA gP1 0 v4.toNatClampNeg) = (33 : Int32)
                                                                    · replace hF := iT c33 hF
                                                                      refine lv_tableIn (tgt := 519) (off := 444) hx hb dX1_run_75 (by rw [c33]; decide) (by rw [c33]; decide) (by rw [c33]; rfl) (by decide) ?_
                                                                      exact (k_X1_run_519 l D hT aT yT aT_0 yT_0 aT_1 yT_1 hP0 aP0 yP0 hP1 aP1 yP1 n rec IH) C X (lv_sub hl [2, 3, 4, 5, 6, 7, 1, 0] rfl) hF
                                                                    · replace hF := iF c33 hF
                                                                      by_cases c34 : (gIA gP1 0 v4.toNatClampNeg) = (34 : Int32)
                                                                      · replace hF := iT c34 hF
                                                                        refine lv_tableIn (tgt := 519) (off := 444) hx hb dX1_run_75 (by rw [c34]; decide) (by rw [c34]; decide) (by rw [c34]; rfl) (by decide) ?_
                                                                        exact (k_X1_run_519 l D hT aT yT aT_0 yT_0 aT_1 yT_1 hP0 aP0 yP0 hP1 aP1 yP1 n rec IH) C X (lv_sub hl [2, 3, 4, 5, 6, 7, 1, 0] rfl) hF
                                                                      · replace hF := iF c34 hF
                                                                        by_cases c35 : (gIA gP1 0 v4.toNatClampNeg) = (35 : Int32)
                                                                        · replace hF := iT c35 hF
                                                                          refine lv_tableIn (tgt := 519) (off := 444) hx hb dX1_run_75 (by rw [c35]; decide) (by rw [c35]; decide) (by rw [c35]; rfl) (by decide) ?_
                                                                          exact (k_X1_run_519 l D hT aT yT aT_0 yT_0 aT_1 yT_1 hP0 aP0 yP0 hP1 aP1 yP1 n rec IH) C X (lv_sub hl [2, 3, 4, 5, 6, 7, 1, 0] rfl) hF
                                                                        · replace hF := iF c35 hF
                                                                          by_cases c36 : (gIA gP1 0 v4.toNatClampNeg) = (36 : Int32)
                                                                          · replace hF := iT c36 hF
                                                                            refine lv_tableIn (tgt := 519) (off := 444) hx hb dX1_run_75 (by rw [c36]; decide) (by rw [c36]; decide) (by rw [c36]; rfl) (by decide) ?_
                                                                            exact (k_X1_run_519 l D hT aT yT aT_0 yT_0 aT_1 yT_1 hP0 aP0 yP0 hP1 aP1 yP1 n rec IH) C X (lv_sub hl [2, 3, 4, 5, 6, 7, 1, 0] rfl) hF
                                                                          · replace hF := iF c36 hF
                                                                            by_cases c37 : (gIA gP1 0 v4.toNatClampNeg) = (37 : Int32)
                                                                            · replace hF := iT c37 hF
                                                                              refine lv_tableIn (tgt := 519) (off := 444) hx hb dX1_run_75 (by rw [c37]; decide) (by rw [c37]; decide) (by rw [c37]; rfl) (by decide) ?_
                                                                              exact (k_X1_run_519 l D hT aT yT aT_0 yT_0 aT_1 yT_1 hP0 aP0 yP0 hP1 aP1 yP1 n rec IH) C X (lv_sub hl [2, 3, 4, 5, 6, 7, 1, 0] rfl) hF
                                                                            · replace hF := iF c37 hF
                                                                              by_cases c38 : (gIA gP1 0 v4.toNatClampNeg) = (38 : Int32)
                                                                              · replace hF := iT c38 hF
                                                                                refine lv_tableIn (tgt := 519) (off := 444) hx hb dX1_run_75 (by rw [c38]; decide) (by rw [c38]; decide) (by rw [c38]; rfl) (by decide) ?_
                                                                                exact (k_X1_run_519 l D hT aT yT aT_0 yT_0 aT_1 yT_1 hP0 aP0 yP0 hP1 aP1 yP1 n rec IH) C X (lv_sub hl [2, 3, 4, 5, 6, 7, 1, 0] rfl) hF
                                                                              · replace hF := iF c38 hF
                                                                                by_cases c39 : (gIA gP1 0 v4.toNatClampNeg) = (39 : Int32)
                                                                                · replace hF := iT c39 hF
                                                                                  refine lv_tableIn (tgt := 519) (off := 444) hx hb dX1_run_75 (by rw [c39]; decide) (by rw [c39]; decide) (by rw [c39]; rfl) (by decide) ?_
                                                                                  exact (k_X1_run_519 l D hT aT yT aT_0 yT_0 aT_1 yT_1 hP0 aP0 yP0 hP1 aP1 yP1 n rec IH) C X (lv_sub hl [2, 3, 4, 5, 6, 7, 1, 0] rfl) hF
                                                                                · replace hF := iF c39 hF
                                                                                  by_cases c40 : (gIA gP1 0 v4.toNatClampNeg) = (40 : Int32)
                                                                                  · replace hF := iT c40 hF
                                                                                    refine lv_tableIn (tgt := 519) (off := 444) hx hb dX1_run_75 (by rw [c40]; decide) (by rw [c40]; decide) (by rw [c40]; rfl) (by decide) ?_
                                                                                    exact (k_X1_run_519 l D hT aT yT aT_0 yT_0 aT_1 yT_1 hP0 aP0 yP0 hP1 aP1 yP1 n rec IH) C X (lv_sub hl [2, 3, 4, 5, 6, 7, 1, 0] rfl) hF
                                                                                  · replace hF := iF c40 hF
                                                                                    by_cases c41 : (gIA gP1 0 v4.toNatClampNeg) = (41 : Int32)
                                                                                    · replace hF := iT c41 hF
                                                                                      refine lv_tableIn (tgt := 519) (off := 444) hx hb dX1_run_75 (by rw [c41]; decide) (by rw [c41]; decide) (by rw [c41]; rfl) (by decide) ?_
                                                                                      exact (k_X1_run_519 l D hT aT yT aT_0 yT_0 aT_1 yT_1 hP0 aP0 yP0 hP1 aP1 yP1 n rec IH) C X (lv_sub hl [2, 3, 4, 5, 6, 7, 1, 0] rfl) hF
                                                                                    · replace hF := iF c41 hF
                                                                                      by_cases c42 : (gIA gP1 0 v4.toNatClampNeg) = (42 : Int32)
                                                                                      · replace hF := iT c42 hF
                                                                                        refine lv_tableIn (tgt := 519) (off := 444) hx hb dX1_run_75 (by rw [c42]; decide) (by rw [c42]; decide) (by rw [c42]; rfl) (by decide) ?_
                                                                                        exact (k_X1_run_519 l D hT aT yT aT_0 yT_0 aT_1 yT_1 hP0 aP0 yP0 hP1 aP1 yP1 n rec IH) C X (lv_sub hl [2, 3, 4, 5, 6, 7, 1, 0] rfl) hF
                                                                                      · replace hF := iF c42 hF
                                                                                        by_cases c43 : (gIA gP1 0 v4.toNatClampNeg) = (43 : Int32)
                                                                                        · replace hF := iT c43 hF
                                                                                          refine lv_tableIn (tgt := 519) (off := 444) hx hb dX1_run_75 (by rw [c43]; decide) (by rw [c43]; decide) (by rw [c43]; rfl) (by decide) ?_
                                                                                          exact (k_X1_run_519 l D hT aT yT aT_0 yT_0 aT_1 yT_1 hP0 aP0 yP0 hP1 aP1 yP1 n rec IH) C X (lv_sub hl [2, 3, 4, 5, 6, 7, 1, 0] rfl) hF
                                                                                        · replace hF := iF c43 hF
                                                                                          by_cases c44 : (gIA gP1 0 v4.toNatClampNeg) = (44 : Int32)
                                                                                          · replace hF := iT c44 hF
                                                                                            refine lv_tableIn (tgt := 451) (off := 376) hx hb dX1_run_75 (by rw [c44]; decide) (by rw [c44]; decide) (by rw [c44]; rfl) (by decide) ?_
                                                                                            refine lv_aload_n hx hb dX1_run_451 rfl (lv_at hl 2 rfl) ?_
                                                                                            refine lv_aload_n hx hb dX1_run_452 rfl (lv_at hl 2 rfl) ?_
                                                                                            refine va_get (D := D.1) (ci := 1) (v := .int (gI gT 4)) (C := RX1) (T := TX1) (N := 7) hx hb hts wi_X1 hown X.1 X.2.1 0 rfl rfl 4 (by decide) (hts _ q1_143) (fun _ h9 => h9) (fl_get (by decide)) dX1_run_453 ?_
                                                                                            refine lv_iconst (v := (1 : Int32)) hx hb dX1_run_456 (by decide) ?_
                                                                                            refine lv_isub hx hb dX1_run_457 ?_
                                                                                            refine lv_aload_n hx hb dX1_run_458 rfl (lv_at hl 4 rfl) ?_
                                                                                            refine va_getN (D := D.1) (ci := 0) (v := .ref (aP1 4)) (C := RX0) (T := TX0) (N := 19) hx hb hts wi_X0 hown X.1 X.2.1 29 rfl rfl 4 (by decide) (X.2.2.2.2.2.1.use q1_224 rfl) (fun _ h9 => h9) (fl_get (by decide)) dX1_run_459 ?_
                                                                                            refine lv_iload hx hb dX1_run_462 (lv_at hl 5 rfl) ?_
                                                                                            obtain ⟨h_27, hF⟩ := grd_some hF
                                                                                            refine va_iald (D := D.1) (f := gIA gP1 4) hx hb X.1 X.2.1 34 29 rfl rfl (inB_ok h_27) dX1_run_464 ?_
                                                                                            refine lv_aload_n hx hb dX1_run_465 rfl (lv_at hl 4 rfl) ?_
                                                                                            refine va_getN (D := D.1) (ci := 0) (v := .ref (aP1 2)) (C := RX0) (T := TX0) (N := 19) hx hb hts wi_X0 hown X.1 X.2.1 29 rfl rfl 2 (by decide) (X.2.2.2.2.2.1.use q1_216 rfl) (fun _ h9 => h9) (fl_get (by decide)) dX1_run_466 ?_
                                                                                            refine lv_iload hx hb dX1_run_469 (lv_at hl 5 rfl) ?_
                                                                                            obtain ⟨h_28, hF⟩ := grd_some hF
                                                                                            refine va_iald (D := D.1) (f := gIA gP1 2) hx hb X.1 X.2.1 32 27 rfl rfl (inB_ok h_28) dX1_run_471 ?_
                                                                                            obtain ⟨q_29, hc_30, hF⟩ := bnd_some hF
                                                                                            refine cV_v (As := [.int ((gI gT 4) - (1 : Int32)), .int (gIA gP1 4 v4.toNatClampNeg), .int (gIA gP1 2 v4.toNatClampNeg)]) (rest := []) C X (c_X1_become l D hT aT yT (sI gT 6 (gIA gP1 1 v4.toNatClampNeg)) ((gI gT 4) - (1 : Int32)) (gIA gP1 4 v4.toNatClampNeg) (gIA gP1 2 v4.toNatClampNeg) q_29 hc_30 _) (cwV 3 hts (good_V q5_50 q5_52 q0_50 q1_4 q5_53) rfl rfl rfl (by decide +kernel) ⟨Nat.le_of_ble_eq_true rfl, Nat.le_of_ble_eq_true rfl⟩) (va_recv X.1 X.2.1 (ci := 1) (q0 := 0) rfl rfl) (X.1.sub (tys' := tX1 yT) [0, 1] rfl) (X.2.1.sub (ws' := wX1 hT aT yT (sI gT 6 (gIA gP1 1 v4.toNatClampNeg))) [0, 1, 2] rfl) (X.2.2.1.sub (ws' := wX1 hT aT yT (sI gT 6 (gIA gP1 1 v4.toNatClampNeg))) [0, 1, 2] (by decide) rfl) (free_of (wC := wX1 hT aT yT (sI gT 6 (gIA gP1 1 v4.toNatClampNeg))) (isC := [0, 1, 2]) X rfl) hl.1 rfl rfl (Nat.le_of_ble_eq_true rfl) dX1_run_472 ⟨Nat.le_of_ble_eq_true rfl, Nat.le_of_ble_eq_true rfl⟩ (fun t H1 locs1 ht hB hk hS => ?_)
                                                                                            have X : Hx D (tX1 yT ++ (tX6 yT_0 ++ (tX9 yT_1 ++ (tX4 yP0 ++ (tX0 yP1))))) A s H1 locs1 (wX1 hT aT yT q_29 ++ (wX6 (aT 0) aT_0 yT_0 gT_0 ++ (wX9 (aT 1) aT_1 yT_1 gT_1 ++ (wX4 hP0 aP0 yP0 gP0 ++ (wX0 hP1 aP1 yP1 gP1))))) := Hx_after (isC := [0, 1, 2]) (isR := [3, 4, 5, 6, 7, 8, 9, 10, 11, 12, 13, 14, 15, 16, 17, 18, 19, 20, 21, 22, 23, 24, 25, 26, 27, 28, 29, 30, 31, 32, 33, 34, 35, 36, 37, 38, 39, 40, 41, 42, 43, 44]) (pm := [42, 43, 44, 0, 1, 2, 3, 4, 5, 6, 7, 8, 9, 10, 11, 12, 13, 14, 15, 16, 17, 18, 19, 20, 21, 22, 23, 24, 25, 26, 27, 28, 29, 30, 31, 32, 33, 34, 35, 36, 37, 38, 39, 40, 41]) (wr := wX6 (aT 0) aT_0 yT_0 gT_0 ++ (wX9 (aT 1) aT_1 yT_1 gT_1 ++ (wX4 hP0 aP0 yP0 gP0 ++ (wX0 hP1 aP1 yP1 gP1)))) X ⟨rfl, rfl, by decide, by decide, rfl, by decide⟩ ht hB hk hS
                                                                                            clear hk hS ht hB
                                                                                            generalize H1 = H at X ⊢
                                                                                            generalize locs1 = locs at X ⊢
                                                                                            refine lv_goto (tgt := 546) hx hb dX1_run_475 (by decide) ?_
                                                                                            exact (k_X1_run_546 l D hT aT yT aT_0 yT_0 aT_1 yT_1 hP0 aP0 yP0 hP1 aP1 yP1 n rec IH) C X (lv_sub hl [2, 3, 4, 6, 7, 0] rfl) hF
                                                                                          · replace hF := iF c44 hF
                                                                                            by_cases c45 : (gIA gP1 0 v4.toNatClampNeg) = (45 : Int32)
                                                                                            · replace hF := iT c45 hF
                                                                                              refine lv_tableIn (tgt := 519) (off := 444) hx hb dX1_run_75 (by rw [c45]; decide) (by rw [c45]; decide) (by rw [c45]; rfl) (by decide) ?_
                                                                                              exact (k_X1_run_519 l D hT aT yT aT_0 yT_0 aT_1 yT_1 hP0 aP0 yP0 hP1 aP1 yP1 n rec IH) C X (lv_sub hl [2, 3, 4, 5, 6, 7, 1, 0] rfl) hF
                                                                                            · replace hF := iF c45 hF
                                                                                              by_cases c46 : (gIA gP1 0 v4.toNatClampNeg) = (46 : Int32)
                                                                                              · replace hF := iT c46 hF
                                                                                                refine lv_tableIn (tgt := 519) (off := 444) hx hb dX1_run_75 (by rw [c46]; decide) (by rw [c46]; decide) (by rw [c46]; rfl) (by decide) ?_
                                                                                                exact (k_X1_run_519 l D hT aT yT aT_0 yT_0 aT_1 yT_1 hP0 aP0 yP0 hP1 aP1 yP1 n rec IH) C X (lv_sub hl [2, 3, 4, 5, 6, 7, 1, 0] rfl) hF
                                                                                              · replace hF := iF c46 hF
                                                                                                by_cases c47 : (gIA gP1 0 v4.toNatClampNeg) = (47 : Int32)
                                                                                                · replace hF := iT c47 hF
                                                                                                  refine lv_tableIn (tgt := 519) (off := 444) hx hb dX1_run_75 (by rw [c47]; decide) (by rw [c47]; decide) (by rw [c47]; rfl) (by decide) ?_
                                                                                                  exact (k_X1_run_519 l D hT aT yT aT_0 yT_0 aT_1 yT_1 hP0 aP0 yP0 hP1 aP1 yP1 n rec IH) C X (lv_sub hl [2, 3, 4, 5, 6, 7, 1, 0] rfl) hF
                                                                                                · replace hF := iF c47 hF
                                                                                                  by_cases c48 : (gIA gP1 0 v4.toNatClampNeg) = (48 : Int32)
                                                                                                  · replace hF := iT c48 hF
                                                                                                    refine lv_tableIn (tgt := 519) (off := 444) hx hb dX1_run_75 (by rw [c48]; decide) (by rw [c48]; decide) (by rw [c48]; rfl) (by decide) ?_
                                                                                                    exact (k_X1_run_519 l D hT aT yT aT_0 yT_0 aT_1 yT_1 hP0 aP0 yP0 hP1 aP1 yP1 n rec IH) C X (lv_sub hl [2, 3, 4, 5, 6, 7, 1, 0] rfl) hF
                                                                                                  · replace hF := iF c48 hF
                                                                                                    by_cases c49 : (gIA gP1 0 v4.toNatClampNeg) = (49 : Int32)
                                                                                                    · replace hF := iT c49 hF
                                                                                                      refine lv_tableIn (tgt := 519) (off := 444) hx hb dX1_run_75 (by rw [c49]; decide) (by rw [c49]; decide) (by rw [c49]; rfl) (by decide) ?_
                                                                                                      exact (k_X1_run_519 l D hT aT yT aT_0 yT_0 aT_1 yT_1 hP0 aP0 yP0 hP1 aP1 yP1 n rec IH) C X (lv_sub hl [2, 3, 4, 5, 6, 7, 1, 0] rfl) hF
                                                                                                    · replace hF := iF c49 hF
                                                                                                      by_cases c50 : (gIA gP1 0 v4.toNatClampNeg) = (50 : Int32)
                                                                                                      · replace hF := iT c50 hF
                                                                                                        refine lv_tableIn (tgt := 519) (off := 444) hx hb dX1_run_75 (by rw [c50]; decide) (by rw [c50]; decide) (by rw [c50]; rfl) (by decide) ?_
                                                                                                        exact (k_X1_run_519 l D hT aT yT aT_0 yT_0 aT_1 yT_1 hP0 aP0 yP0 hP1 aP1 yP1 n rec IH) C X (lv_sub hl [2, 3, 4, 5, 6, 7, 1, 0] rfl) hF
                                                                                                      · replace hF := iF c50 hF
                                                                                                        by_cases c51 : (gIA gP1 0 v4.toNatClampNeg) = (51 : Int32)
                                                                                                        · replace hF := iT c51 hF
                                                                                                          refine lv_tableIn (tgt := 519) (off := 444) hx hb dX1_run_75 (by rw [c51]; decide) (by rw [c51]; decide) (by rw [c51]; rfl) (by decide) ?_
                                                                                                          exact (k_X1_run_519 l D hT aT yT aT_0 yT_0 aT_1 yT_1 hP0 aP0 yP0 hP1 aP1 yP1 n rec IH) C X (lv_sub hl [2, 3, 4, 5, 6, 7, 1, 0] rfl) hF
                                                                                                        · replace hF := iF c51 hF
                                                                                                          by_cases c52 : (gIA gP1 0 v4.toNatClampNeg) = (52 : Int32)
                                                                                                          · replace hF := iT c52 hF
                                                                                                            refine lv_tableIn (tgt := 519) (off := 444) hx hb dX1_run_75 (by rw [c52]; decide) (by rw [c52]; decide) (by rw [c52]; rfl) (by decide) ?_
                                                                                                            exact (k_X1_run_519 l D hT aT yT aT_0 yT_0 aT_1 yT_1 hP0 aP0 yP0 hP1 aP1 yP1 n rec IH) C X (lv_sub hl [2, 3, 4, 5, 6, 7, 1, 0] rfl) hF
                                                                                                          · replace hF := iF c52 hF
                                                                                                            by_cases c53 : (gIA gP1 0 v4.toNatClampNeg) = (53 : Int32)
                                                                                                            · replace hF := iT c53 hF
                                                                                                              refine lv_tableIn (tgt := 519) (off := 444) hx hb dX1_run_75 (by rw [c53]; decide) (by rw [c53]; decide) (by rw [c53]; rfl) (by decide) ?_
                                                                                                              exact (k_X1_run_519 l D hT aT yT aT_0 yT_0 aT_1 yT_1 hP0 aP0 yP0 hP1 aP1 yP1 n rec IH) C X (lv_sub hl [2, 3, 4, 5, 6, 7, 1, 0] rfl) hF
                                                                                                            · replace hF := iF c53 hF
                                                                                                              by_cases c54 : (gIA gP1 0 v4.toNatClampNeg) = (54 : Int32)
                                                                                                              · replace hF := iT c54 hF
                                                                                                                refine lv_tableIn (tgt := 496) (off := 421) hx hb dX1_run_75 (by rw [c54]; decide) (by rw [c54]; decide) (by rw [c54]; rfl) (by decide) ?_
                                                                                                                exact (k_X1_run_496 l D hT aT yT aT_0 yT_0 aT_1 yT_1 hP0 aP0 yP0 hP1 aP1 yP1 n rec IH) C X (lv_sub hl [2, 3, 4, 5, 6, 7, 1, 0] rfl) hF
                                                                                                              · replace hF := iF c54 hF
                                                                                                                by_cases c55 : (gIA gP1 0 v4.toNatClampNeg) = (55 : Int32)
                                                                                                                · replace hF := iT c55 hF
                                                                                                                  refine lv_tableIn (tgt := 519) (off := 444) hx hb dX1_run_75 (by rw [c55]; decide) (by rw [c55]; decide) (by rw [c55]; rfl) (by decide) ?_
                                                                                                                  exact (k_X1_run_519 l D hT aT yT aT_0 yT_0 aT_1 yT_1 hP0 aP0 yP0 hP1 aP1 yP1 n rec IH) C X (lv_sub hl [2, 3, 4, 5, 6, 7, 1, 0] rfl) hF
                                                                                                                · replace hF := iF c55 hF
                                                                                                                  by_cases c56 : (gIA gP1 0 v4.toNatClampNeg) = (56 : Int32)
                                                                                                                  · replace hF := iT c56 hF
                                                                                                                    refine lv_tableIn (tgt := 519) (off := 444) hx hb dX1_run_75 (by rw [c56]; decide) (by rw [c56]; decide) (by rw [c56]; rfl) (by decide) ?_
                                                                                                                    exact (k_X1_run_519 l D hT aT yT aT_0 yT_0 aT_1 yT_1 hP0 aP0 yP0 hP1 aP1 yP1 n rec IH) C X (lv_sub hl [2, 3, 4, 5, 6, 7, 1, 0] rfl) hF
                                                                                                                  · replace hF := iF c56 hF
                                                                                                                    by_cases c57 : (gIA gP1 0 v4.toNatClampNeg) = (57 : Int32)
                                                                                                                    · replace hF := iT c57 hF
                                                                                                                      refine lv_tableIn (tgt := 519) (off := 444) hx hb dX1_run_75 (by rw [c57]; decide) (by rw [c57]; decide) (by rw [c57]; rfl) (by decide) ?_
                                                                                                                      exact (k_X1_run_519 l D hT aT yT aT_0 yT_0 aT_1 yT_1 hP0 aP0 yP0 hP1 aP1 yP1 n rec IH) C X (lv_sub hl [2, 3, 4, 5, 6, 7, 1, 0] rfl) hF
                                                                                                                    · replace hF := iF c57 hF
                                                                                                                      by_cases c58 : (gIA gP1 0 v4.toNatClampNeg) = (58 : Int32)
                                                                                                                      · replace hF := iT c58 hF
                                                                                                                        refine lv_tableIn (tgt := 519) (off := 444) hx hb dX1_run_75 (by rw [c58]; decide) (by rw [c58]; decide) (by rw [c58]; rfl) (by decide) ?_
                                                                                                                        exact (k_X1_run_519 l D hT aT yT aT_0 yT_0 aT_1 yT_1 hP0 aP0 yP0 hP1 aP1 yP1 n rec IH) C X (lv_sub hl [2, 3, 4, 5, 6, 7, 1, 0] rfl) hF
                                                                                                                      · replace hF := iF c58 hF
                                                                                                                        by_cases c59 : (gIA gP1 0 v4.toNatClampNeg) = (59 : Int32)
                                                                                                                        · replace hF := iT c59 hF
                                                                                                                          refine lv_tableIn (tgt := 519) (off := 444) hx hb dX1_run_75 (by rw [c59]; decide) (by rw [c59]; decide) (by rw [c59]; rfl) (by decide) ?_
                                                                                                                          exact (k_X1_run_519 l D hT aT yT aT_0 yT_0 aT_1 yT_1 hP0 aP0 yP0 hP1 aP1 yP1 n rec IH) C X (lv_sub hl [2, 3, 4, 5, 6, 7, 1, 0] rfl) hF
                                                                                                                        · replace hF := iF c59 hF
                                                                                                                          by_cases c60 : (gIA gP1 0 v4.toNatClampNeg) = (60 : Int32)
                                                                                                                          · replace hF := iT c60 hF
                                                                                                                            refine lv_tableIn (tgt := 519) (off := 444) hx hb dX1_run_75 (by rw [c60]; decide) (by rw [c60]; decide) (by rw [c60]; rfl) (by decide) ?_
                                                                                                                            exact (k_X1_run_519 l D hT aT yT aT_0 yT_0 aT_1 yT_1 hP0 aP0 yP0 hP1 aP1 yP1 n rec IH) C X (lv_sub hl [2, 3, 4, 5, 6, 7, 1, 0] rfl) hF
                                                                                                                          · replace hF := iF c60 hF
                                                                                                                            by_cases c61 : (gIA gP1 0 v4.toNatClampNeg) = (61 : Int32)
                                                                                                                            · replace hF := iT c61 hF
                                                                                                                              refine lv_tableIn (tgt := 478) (off := 403) hx hb dX1_run_75 (by rw [c61]; decide) (by rw [c61]; decide) (by rw [c61]; rfl) (by decide) ?_
                                                                                                                              exact (k_X1_run_478 l D hT aT yT aT_0 yT_0 aT_1 yT_1 hP0 aP0 yP0 hP1 aP1 yP1 n rec IH) C X (lv_sub hl [2, 3, 4, 6, 7, 0] rfl) hF
                                                                                                                            · replace hF := iF c61 hF
                                                                                                                              by_cases c62 : (gIA gP1 0 v4.toNatClampNeg) = (62 : Int32)
                                                                                                                              · replace hF := iT c62 hF
                                                                                                                                refine lv_tableIn (tgt := 478) (off := 403) hx hb dX1_run_75 (by rw [c62]; decide) (by rw [c62]; decide) (by rw [c62]; rfl) (by decide) ?_
                                                                                                                                exact (k_X1_run_478 l D hT aT yT aT_0 yT_0 aT_1 yT_1 hP0 aP0 yP0 hP1 aP1 yP1 n rec IH) C X (lv_sub hl [2, 3, 4, 6, 7, 0] rfl) hF
                                                                                                                              · replace hF := iF c62 hF
                                                                                                                                by_cases c63 : (gIA gP1 0 v4.toNatClampNeg) = (63 : Int32)
                                                                                                                                · replace hF := iT c63 hF
                                                                                                                                  refine lv_tableIn (tgt := 411) (off := 336) hx hb dX1_run_75 (by rw [c63]; decide) (by rw [c63]; decide) (by rw [c63]; rfl) (by decide) ?_
                                                                                                                                  exact (k_X1_run_411 l D hT aT yT aT_0 yT_0 aT_1 yT_1 hP0 aP0 yP0 hP1 aP1 yP1 n rec IH) C X (lv_sub hl [2, 3, 4, 5, 6, 7, 1, 0] rfl) hF
                                                                                                                                · replace hF := iF c63 hF
                                                                                                                                  by_cases c64 : (gIA gP1 0 v4.toNatClampNeg) = (64 : Int32)
                                                                                                                                  · replace hF := iT c64 hF
                                                                                                                                    refine lv_tableIn (tgt := 481) (off := 406) hx hb dX1_run_75 (by rw [c64]; decide) (by rw [c64]; decide) (by rw [c64]; rfl) (by decide) ?_
                                                                                                                                    refine lv_aload_n hx hb dX1_run_481 rfl (lv_at hl 2 rfl) ?_
                                                                                                                                    refine lv_aload_n hx hb dX1_run_482 rfl (lv_at hl 3 rfl) ?_
                                                                                                                                    refine lv_aload_n hx hb dX1_run_483 rfl (lv_at hl 4 rfl) ?_
                                                                                                                                    refine va_getN (D := D.1) (ci := 0) (v := .ref (aP1 5)) (C := RX0) (T := TX0) (N := 19) hx hb hts wi_X0 hown X.1 X.2.1 29 rfl rfl 5 (by decide) (X.2.2.2.2.2.1.use q1_228 rfl) (fun _ h9 => h9) (fl_get (by decide)) dX1_run_484 ?_
                                                                                                                                    refine lv_iload hx hb dX1_run_487 (lv_at hl 5 rfl) ?_
                                                                                                                                    obtain ⟨h_31, hF⟩ := grd_some hF
                                                                                                                                    refine va_iald (D := D.1) (f := gIA gP1 5) hx hb X.1 X.2.1 35 30 rfl rfl (inB_ok h_31) dX1_run_489 ?_
                                                                                                                                    obtain ⟨q_32, hc_33, hF⟩ := bnd_some hF
                                                                                                                                    refine cV_v (As := [.ref hP0, .int (gIA gP1 5 v4.toNatClampNeg)]) (rest := []) C X (c_X1_takeTooth l D hT aT yT hP0 aP0 yP0 (sI gT 6 (gIA gP1 1 v4.toNatClampNeg)) gP0 (gIA gP1 5 v4.toNatClampNeg) q_32 hc_33 _) (cwV 2 hts (good_V q5_59 q5_61 q0_51 q1_4 q5_62) rfl rfl rfl (by decide +kernel) ⟨Nat.le_of_ble_eq_true rfl, Nat.le_of_ble_eq_true rfl⟩) (va_recv X.1 X.2.1 (ci := 1) (q0 := 0) rfl rfl) (X.1.sub (tys' := tX1 yT ++ (tX4 yP0)) [0, 1, 15, 16, 17, 18, 19, 20, 21, 22, 23, 24] rfl) (X.2.1.sub (ws' := wX1 hT aT yT (sI gT 6 (gIA gP1 1 v4.toNatClampNeg)) ++ (wX4 hP0 aP0 yP0 gP0)) [0, 1, 2, 18, 19, 20, 21, 22, 23, 24, 25, 26, 27, 28] rfl) (X.2.2.1.sub (ws' := wX1 hT aT yT (sI gT 6 (gIA gP1 1 v4.toNatClampNeg)) ++ (wX4 hP0 aP0 yP0 gP0)) [0, 1, 2, 18, 19, 20, 21, 22, 23, 24, 25, 26, 27, 28] (by decide) rfl) (free_of (wC := wX1 hT aT yT (sI gT 6 (gIA gP1 1 v4.toNatClampNeg)) ++ (wX4 hP0 aP0 yP0 gP0)) (isC := [0, 1, 2, 18, 19, 20, 21, 22, 23, 24, 25, 26, 27, 28]) X rfl) hl.1 rfl rfl (Nat.le_of_ble_eq_true rfl) dX1_run_490 ⟨Nat.le_of_ble_eq_true rfl, Nat.le_of_ble_eq_true rfl⟩ (fun t H1 locs1 ht hB hk hS => ?_)
                                                                                                                                    have X : Hx D (tX1 yT ++ (tX6 yT_0 ++ (tX9 yT_1 ++ (tX4 yP0 ++ (tX0 yP1))))) A s H1 locs1 (wX1 hT aT yT q_32 ++ (wX6 (aT 0) aT_0 yT_0 gT_0 ++ (wX9 (aT 1) aT_1 yT_1 gT_1 ++ (wX4 hP0 aP0 yP0 gP0 ++ (wX0 hP1 aP1 yP1 gP1))))) := Hx_after (isC := [0, 1, 2, 18, 19, 20, 21, 22, 23, 24, 25, 26, 27, 28]) (isR := [3, 4, 5, 6, 7, 8, 9, 10, 11, 12, 13, 14, 15, 16, 17, 29, 30, 31, 32, 33, 34, 35, 36, 37, 38, 39, 40, 41, 42, 43, 44]) (pm := [31, 32, 33, 0, 1, 2, 3, 4, 5, 6, 7, 8, 9, 10, 11, 12, 13, 14, 34, 35, 36, 37, 38, 39, 40, 41, 42, 43, 44, 15, 16, 17, 18, 19, 20, 21, 22, 23, 24, 25, 26, 27, 28, 29, 30]) (wr := wX6 (aT 0) aT_0 yT_0 gT_0 ++ (wX9 (aT 1) aT_1 yT_1 gT_1 ++ (wX0 hP1 aP1 yP1 gP1))) X ⟨rfl, rfl, by decide, by decide, rfl, by decide⟩ ht hB hk hS
                                                                                                                                    clear hk hS ht hB
                                                                                                                                    generalize H1 = H at X ⊢
                                                                                                                                    generalize locs1 = locs at X ⊢
                                                                                                                                    refine lv_goto (tgt := 546) hx hb dX1_run_493 (by decide) ?_
                                                                                                                                    exact (k_X1_run_546 l D hT aT yT aT_0 yT_0 aT_1 yT_1 hP0 aP0 yP0 hP1 aP1 yP1 n rec IH) C X (lv_sub hl [2, 3, 4, 6, 7, 0] rfl) hF
                                                                                                                                  · replace hF := iF c64 hF
                                                                                                                                    by_cases c65 : (gIA gP1 0 v4.toNatClampNeg) = (65 : Int32)
                                                                                                                                    · replace hF := iT c65 hF
                                                                                                                                      refine lv_tableIn (tgt := 496) (off := 421) hx hb dX1_run_75 (by rw [c65]; decide) (by rw [c65]; decide) (by rw [c65]; rfl) (by decide) ?_
                                                                                                                                      exact (k_X1_run_496 l D hT aT yT aT_0 yT_0 aT_1 yT_1 hP0 aP0 yP0 hP1 aP1 yP1 n rec IH) C X (lv_sub hl [2, 3, 4, 5, 6, 7, 1, 0] rfl) hF
                                                                                                                                    · replace hF := iF c65 hF
                                                                                                                                      by_cases c66 : (gIA gP1 0 v4.toNatClampNeg) = (66 : Int32)
                                                                                                                                      · replace hF := iT c66 hF
                                                                                                                                        refine lv_tableIn (tgt := 496) (off := 421) hx hb dX1_run_75 (by rw [c66]; decide) (by rw [c66]; decide) (by rw [c66]; rfl) (by decide) ?_
                                                                                                                                        exact (k_X1_run_496 l D hT aT yT aT_0 yT_0 aT_1 yT_1 hP0 aP0 yP0 hP1 aP1 yP1 n rec IH) C X (lv_sub hl [2, 3, 4, 5, 6, 7, 1, 0] rfl) hF
                                                                                                                                      · replace hF := iF c66 hF
                                                                                                                                        by_cases c67 : (gIA gP1 0 v4.toNatClampNeg) = (67 : Int32)
                                                                                                                                        · replace hF := iT c67 hF
                                                                                                                                          refine lv_tableIn (tgt := 437) (off := 362) hx hb dX1_run_75 (by rw [c67]; decide) (by rw [c67]; decide) (by rw [c67]; rfl) (by decide) ?_
                                                                                                                                          exact (k_X1_run_437 l D hT aT yT aT_0 yT_0 aT_1 yT_1 hP0 aP0 yP0 hP1 aP1 yP1 n rec IH) C X (lv_sub hl [2, 3, 4, 5, 6, 7, 1] rfl) hF
                                                                                                                                        · replace hF := iF c67 hF
                                                                                                                                          by_cases c68 : (gIA gP1 0 v4.toNatClampNeg) = (68 : Int32)
                                                                                                                                          · replace hF := iT c68 hF
                                                                                                                                            refine lv_tableIn (tgt := 437) (off := 362) hx hb dX1_run_75 (by rw [c68]; decide) (by rw [c68]; decide) (by rw [c68]; rfl) (by decide) ?_
                                                                                                                                            exact (k_X1_run_437 l D hT aT yT aT_0 yT_0 aT_1 yT_1 hP0 aP0 yP0 hP1 aP1 yP1 n rec IH) C X (lv_sub hl [2, 3, 4, 5, 6, 7, 1] rfl) hF
                                                                                                                                          · replace hF := iF c68 hF
                                                                                                                                            by_cases c69 : (gIA gP1 0 v4.toNatClampNeg) = (69 : Int32)
                                                                                                                                            · replace hF := iT c69 hF
                                                                                                                                              refine lv_tableIn (tgt := 437) (off := 362) hx hb dX1_run_75 (by rw [c69]; decide) (by rw [c69]; decide) (by rw [c69]; rfl) (by decide) ?_
                                                                                                                                              exact (k_X1_run_437 l D hT aT yT aT_0 yT_0 aT_1 yT_1 hP0 aP0 yP0 hP1 aP1 yP1 n rec IH) C X (lv_sub hl [2, 3, 4, 5, 6, 7, 1] rfl) hF
                                                                                                                                            · replace hF := iF c69 hF
                                                                                                                                              by_cases c70 : (gIA gP1 0 v4.toNatClampNeg) = (70 : Int32)
                                                                                                                                              · replace hF := iT c70 hF
                                                                                                                                                refine lv_tableIn (tgt := 437) (off := 362) hx hb dX1_run_75 (by rw [c70]; decide) (by rw [c70]; decide) (by rw [c70]; rfl) (by decide) ?_
                                                                                                                                                exact (k_X1_run_437 l D hT aT yT aT_0 yT_0 aT_1 yT_1 hP0 aP0 yP0 hP1 aP1 yP1 n rec IH) C X (lv_sub hl [2, 3, 4, 5, 6, 7, 1] rfl) hF
                                                                                                                                              · replace hF := iF c70 hF
                                                                                                                                                refine lv_tableOut (tgt := 519) hx hb dX1_run_75 (tbl_out (3) (70) 68 (by decide) ⟨tne c3 (by decide), ⟨tne c4 (by decide), ⟨tne c5 (by decide), ⟨tne c6 (by decide), ⟨tne c7 (by decide), ⟨tne c8 (by decide), ⟨tne c9 (by decide), ⟨tne c10 (by decide), ⟨tne c11 (by decide), ⟨tne c12 (by decide), ⟨tne c13 (by decide), ⟨tne c14 (by decide), ⟨tne c15 (by decide), ⟨tne c16 (by decide), ⟨tne c17 (by decide), ⟨tne c18 (by decide), ⟨tne c19 (by decide), ⟨tne c20 (by decide), ⟨tne c21 (by decide), ⟨tne c22 (by decide), ⟨tne c23 (by decide), ⟨tne c24 (by decide), ⟨tne c25 (by decide), ⟨tne c26 (by decide), ⟨tne c27 (by decide), ⟨tne c28 (by decide), ⟨tne c29 (by decide), ⟨tne c30 (by decide), ⟨tne c31 (by decide), ⟨tne c32 (by decide), ⟨tne c33 (by decide), ⟨tne c34 (by decide), ⟨tne c35 (by decide), ⟨tne c36 (by decide), ⟨tne c37 (by decide), ⟨tne c38 (by decide), ⟨tne c39 (by decide), ⟨tne c40 (by decide), ⟨tne c41 (by decide), ⟨tne c42 (by decide), ⟨tne c43 (by decide), ⟨tne c44 (by decide), ⟨tne c45 (by decide), ⟨tne c46 (by decide), ⟨tne c47 (by decide), ⟨tne c48 (by decide), ⟨tne c49 (by decide), ⟨tne c50 (by decide), ⟨tne c51 (by decide), ⟨tne c52 (by decide), ⟨tne c53 (by decide), ⟨tne c54 (by decide), ⟨tne c55 (by decide), ⟨tne c56 (by decide), ⟨tne c57 (by decide), ⟨tne c58 (by decide), ⟨tne c59 (by decide), ⟨tne c60 (by decide), ⟨tne c61 (by decide), ⟨tne c62 (by decide), ⟨tne c63 (by decide), ⟨tne c64 (by decide), ⟨tne c65 (by decide), ⟨tne c66 (by decide), ⟨tne c67 (by decide), ⟨tne c68 (by decide), ⟨tne c69 (by decide), ⟨tne c70 (by decide), trivial⟩⟩⟩⟩⟩⟩⟩⟩⟩⟩⟩⟩⟩⟩⟩⟩⟩⟩⟩⟩⟩⟩⟩⟩⟩⟩⟩⟩⟩⟩⟩⟩⟩⟩⟩⟩⟩⟩⟩⟩⟩⟩⟩⟩⟩⟩⟩⟩⟩⟩⟩⟩⟩⟩⟩⟩⟩⟩⟩⟩⟩⟩⟩⟩⟩⟩⟩⟩) (by decide) ?_
                                                                                                                                                exact (k_X1_run_519 l D hT aT yT aT_0 yT_0 aT_1 yT_1 hP0 aP0 yP0 hP1 aP1 yP1 n rec IH) C X (lv_sub hl [2, 3, 4, 5, 6, 7, 1, 0] rfl) hF
theorem kL_X1_run (l : Launch) (D : Dx) (hT : Nat) (aT : Nat → Nat) (yT : Nat → ClassId) (aT_0 : Nat → Nat) (yT_0 : Nat → ClassId) (aT_1 : Nat → Nat) (yT_1 : Nat → ClassId) (hP0 : Nat) (aP0 : Nat → Nat) (yP0 : Nat → ClassId) (hP1 : Nat) (aP1 : Nat → Nat) (yP1 : Nat → ClassId) (n : Nat) : ∀ k, SH_X1_run l D hT aT yT aT_0 yT_0 aT_1 yT_1 hP0 aP0 yP0 hP1 aP1 yP1 (L_X1_run n k)
  | 0 => fun _ _ _ h => by cases h
  | k + 1 => k_X1_run_27 l D hT aT yT aT_0 yT_0 aT_1 yT_1 hP0 aP0 yP0 hP1 aP1 yP1 n _ (kL_X1_run l D hT aT yT aT_0 yT_0 aT_1 yT_1 hP0 aP0 yP0 hP1 aP1 yP1 n k)
set_option maxHeartbeats 4000000 in
set_option maxRecDepth 100000 in
theorem c_X1_run (l : Launch) (D : Dx) (hT : Nat) (aT : Nat → Nat) (yT : Nat → ClassId) (aT_0 : Nat → Nat) (yT_0 : Nat → ClassId) (aT_1 : Nat → Nat) (yT_1 : Nat → ClassId) (hP0 : Nat) (aP0 : Nat → Nat) (yP0 : Nat → ClassId) (hP1 : Nat) (aP1 : Nat → Nat) (yP1 : Nat → ClassId) (n : Nat) (gT : Gs) (gT_0 : Gs) (gT_1 : Gs) (gP0 : Gs) (gP1 : Gs) (x2 : Int32) (q : Int32 × Gs) (hF : f_X1_run n gT gT_0 gT_1 gP0 gP1 x2 = some q) (sz : Nat) : Met l yX1_run (ws_ yX1_run cX1_run 9 (some .boolean)) R_X1_run (PC D (tX1 yT ++ (tX6 yT_0 ++ (tX9 yT_1 ++ (tX4 yP0 ++ (tX0 yP1))))) [.ref hT, .ref hP0, .ref hP1, .int x2] (wX1 hT aT yT gT ++ (wX6 (aT 0) aT_0 yT_0 gT_0 ++ (wX9 (aT 1) aT_1 yT_1 gT_1 ++ (wX4 hP0 aP0 yP0 gP0 ++ (wX0 hP1 aP1 yP1 gP1))))) sz) (QI D (va_A (wX1 hT aT yT gT ++ (wX6 (aT 0) aT_0 yT_0 gT_0 ++ (wX9 (aT 1) aT_1 yT_1 gT_1 ++ (wX4 hP0 aP0 yP0 gP0 ++ (wX0 hP1 aP1 yP1 gP1))))) sz) (wX1 hT aT yT q.2 ++ (wX6 (aT 0) aT_0 yT_0 gT_0 ++ (wX9 (aT 1) aT_1 yT_1 gT_1 ++ (wX4 hP0 aP0 yP0 gP0 ++ (wX0 hP1 aP1 yP1 gP1))))) q.1) 0 0 (va_A (wX1 hT aT yT gT ++ (wX6 (aT 0) aT_0 yT_0 gT_0 ++ (wX9 (aT 1) aT_1 yT_1 gT_1 ++ (wX4 hP0 aP0 yP0 gP0 ++ (wX0 hP1 aP1 yP1 gP1))))) sz) := by
  refine Met.ofW (cc := cX1_run) (maxL := 9) (ret := (some .boolean)) (by decide) rfl ?_
  intro p e s m args below meth c s₁ B hml hv
  obtain ⟨rfl, hsz, hP, hK, hD, hN⟩ := hv
  subst hsz
  have C : Cx p s m _ meth c cX1_run (some .boolean) 9 RX1 lw_all := Cx_of B hml
  have X := Hx_start hP hK hD hN
  obtain ⟨hx, hb, hr, -, hown, hts, hlk⟩ := id C
  generalize va_A (wX1 hT aT yT gT ++ (wX6 (aT 0) aT_0 yT_0 gT_0 ++ (wX9 (aT 1) aT_1 yT_1 gT_1 ++ (wX4 hP0 aP0 yP0 gP0 ++ (wX0 hP1 aP1 yP1 gP1))))) s.heap.size = A at X ⊢
  have hl := lv_entry ([.ref hT, .ref hP0, .ref hP1, .int x2]) (n := 9) (Nat.le_of_ble_eq_true rfl)
  rw [lg_entry_eq]
  generalize (lg_sl ([.ref hT, .ref hP0, .ref hP1, .int x2]) ++ List.replicate (9 - (lg_sl ([.ref hT, .ref hP0, .ref hP1, .int x2])).length) Slot.unset).toArray = ls at hl ⊢
  have hl : lv_has ls 9 [(0, .ref hT), (1, .ref hP0), (2, .ref hP1), (3, .int x2)] := hl
  unfold f_X1_run at hF
  refine lv_aload_n hx hb dX1_run_0 rfl (lv_at hl 0 rfl) ?_
  refine lv_iconst (v := (0 : Int32)) hx hb dX1_run_1 (by decide) ?_
  refine va_put (D := D.1) (ci := 1) (v := .int (0 : Int32)) (ty := .int) (C := RX1) (T := TX1) (N := 7) hx hb hts wi_X1 tyX1 tyX1_ok nmX1 hown X.1 X.2.1 X.2.2.1 X.2.2.2.1 0 rfl rfl 4 (by decide) (hts _ q1_143) (fun _ h9 => h9) rfl (by decide +kernel) rfl rfl (by rw [List.length_map, List.length_range]; decide) dX1_run_2 (fun H locs hP hD hS => ?_)
  have X : Hx D (tX1 yT ++ (tX6 yT_0 ++ (tX9 yT_1 ++ (tX4 yP0 ++ (tX0 yP1))))) A s H locs (wX1 hT aT yT (sI gT 4 (0 : Int32)) ++ (wX6 (aT 0) aT_0 yT_0 gT_0 ++ (wX9 (aT 1) aT_1 yT_1 gT_1 ++ (wX4 hP0 aP0 yP0 gP0 ++ (wX0 hP1 aP1 yP1 gP1))))) := Hx_set X (set_l (by rw [wG_len (m := 3) rfl]; decide) (wG_sI (k := 4) rfl)) hP hD hS
  refine lv_aload_n hx hb dX1_run_5 rfl (lv_at hl 0 rfl) ?_
  refine lv_iconst (v := (0 : Int32)) hx hb dX1_run_6 (by decide) ?_
  refine va_put (D := D.1) (ci := 1) (v := .int (0 : Int32)) (ty := .int) (C := RX1) (T := TX1) (N := 7) hx hb hts wi_X1 tyX1 tyX1_ok nmX1 hown X.1 X.2.1 X.2.2.1 X.2.2.2.1 0 rfl rfl 5 (by decide) (hts _ q1_144) (fun _ h9 => h9) rfl (by decide +kernel) rfl rfl (by rw [List.length_map, List.length_range]; decide) dX1_run_7 (fun H locs hP hD hS => ?_)
  have X : Hx D (tX1 yT ++ (tX6 yT_0 ++ (tX9 yT_1 ++ (tX4 yP0 ++ (tX0 yP1))))) A s H locs (wX1 hT aT yT (sI (sI gT 4 (0 : Int32)) 5 (0 : Int32)) ++ (wX6 (aT 0) aT_0 yT_0 gT_0 ++ (wX9 (aT 1) aT_1 yT_1 gT_1 ++ (wX4 hP0 aP0 yP0 gP0 ++ (wX0 hP1 aP1 yP1 gP1))))) := Hx_set X (set_l (by rw [wG_len (m := 3) rfl]; decide) (wG_sI (k := 5) rfl)) hP hD hS
  refine lv_aload_n hx hb dX1_run_10 rfl (lv_at hl 2 rfl) ?_
  refine lv_iload_n hx hb dX1_run_11 rfl (lv_at hl 3 rfl) ?_
  obtain ⟨q_1, hc_2, hF⟩ := bnd_some hF
  refine cV_i (As := [.int x2]) (rest := []) C X (c_X0_beginOf l D hP1 aP1 yP1 gP1 x2 q_1 hc_2 _) (cwV 1 hts (good_V q5_36 q4_206 q4_207 q1_8 q4_208) rfl rfl rfl (by decide +kernel) ⟨Nat.le_of_ble_eq_true rfl, Nat.le_of_ble_eq_true rfl⟩) (va_recv X.1 X.2.1 (ci := 0) (q0 := 29) rfl rfl) (X.1.sub (tys' := tX0 yP1) [25, 26, 27, 28, 29, 30, 31, 32, 33, 34, 35, 36, 37, 38, 39] rfl) (X.2.1.sub (ws' := wX0 hP1 aP1 yP1 gP1) [29, 30, 31, 32, 33, 34, 35, 36, 37, 38, 39, 40, 41, 42, 43, 44] rfl) (X.2.2.1.sub (ws' := wX0 hP1 aP1 yP1 gP1) [29, 30, 31, 32, 33, 34, 35, 36, 37, 38, 39, 40, 41, 42, 43, 44] (by decide) rfl) (free_of (wC := wX0 hP1 aP1 yP1 gP1) (isC := [29, 30, 31, 32, 33, 34, 35, 36, 37, 38, 39, 40, 41, 42, 43, 44]) X rfl) hl.1 rfl rfl (Nat.le_of_ble_eq_true rfl) dX1_run_12 ⟨Nat.le_of_ble_eq_true rfl, Nat.le_of_ble_eq_true rfl⟩ (fun t H1 locs1 ht hB hk hS => ?_)
  have X : Hx D (tX1 yT ++ (tX6 yT_0 ++ (tX9 yT_1 ++ (tX4 yP0 ++ (tX0 yP1))))) A s H1 locs1 (wX1 hT aT yT (sI (sI gT 4 (0 : Int32)) 5 (0 : Int32)) ++ (wX6 (aT 0) aT_0 yT_0 gT_0 ++ (wX9 (aT 1) aT_1 yT_1 gT_1 ++ (wX4 hP0 aP0 yP0 gP0 ++ (wX0 hP1 aP1 yP1 gP1))))) := Hx_after (isC := [29, 30, 31, 32, 33, 34, 35, 36, 37, 38, 39, 40, 41, 42, 43, 44]) (isR := [0, 1, 2, 3, 4, 5, 6, 7, 8, 9, 10, 11, 12, 13, 14, 15, 16, 17, 18, 19, 20, 21, 22, 23, 24, 25, 26, 27, 28]) (pm := [0, 1, 2, 3, 4, 5, 6, 7, 8, 9, 10, 11, 12, 13, 14, 15, 16, 17, 18, 19, 20, 21, 22, 23, 24, 25, 26, 27, 28, 29, 30, 31, 32, 33, 34, 35, 36, 37, 38, 39, 40, 41, 42, 43, 44]) (wr := wX1 hT aT yT (sI (sI gT 4 (0 : Int32)) 5 (0 : Int32)) ++ (wX6 (aT 0) aT_0 yT_0 gT_0 ++ (wX9 (aT 1) aT_1 yT_1 gT_1 ++ (wX4 hP0 aP0 yP0 gP0)))) X ⟨rfl, rfl, by decide, by decide, rfl, by decide⟩ ht hB hk hS
  clear hk hS ht hB
  generalize H1 = H at X ⊢
  generalize locs1 = locs at X ⊢
  refine lv_istore (lv' := [(4, .int q_1), (0, .ref hT), (1, .ref hP0), (2, .ref hP1), (3, .int x2)]) hx hb dX1_run_15 hl (by decide) rfl (fun ls hl => ?_)
  refine lv_aload_n hx hb dX1_run_17 rfl (lv_at hl 3 rfl) ?_
  refine lv_iload_n hx hb dX1_run_18 rfl (lv_at hl 4 rfl) ?_
  obtain ⟨q_3, hc_4, hF⟩ := bnd_some hF
  refine cV_i (As := [.int x2]) (rest := []) C X (c_X0_endOf l D hP1 aP1 yP1 gP1 x2 q_3 hc_4 _) (cwV 1 hts (good_V q5_37 q4_210 q4_211 q1_8 q4_212) rfl rfl rfl (by decide +kernel) ⟨Nat.le_of_ble_eq_true rfl, Nat.le_of_ble_eq_true rfl⟩) (va_recv X.1 X.2.1 (ci := 0) (q0 := 29) rfl rfl) (X.1.sub (tys' := tX0 yP1) [25, 26, 27, 28, 29, 30, 31, 32, 33, 34, 35, 36, 37, 38, 39] rfl) (X.2.1.sub (ws' := wX0 hP1 aP1 yP1 gP1) [29, 30, 31, 32, 33, 34, 35, 36, 37, 38, 39, 40, 41, 42, 43, 44] rfl) (X.2.2.1.sub (ws' := wX0 hP1 aP1 yP1 gP1) [29, 30, 31, 32, 33, 34, 35, 36, 37, 38, 39, 40, 41, 42, 43, 44] (by decide) rfl) (free_of (wC := wX0 hP1 aP1 yP1 gP1) (isC := [29, 30, 31, 32, 33, 34, 35, 36, 37, 38, 39, 40, 41, 42, 43, 44]) X rfl) hl.1 rfl rfl (Nat.le_of_ble_eq_true rfl) dX1_run_19 ⟨Nat.le_of_ble_eq_true rfl, Nat.le_of_ble_eq_true rfl⟩ (fun t H1 locs1 ht hB hk hS => ?_)
  have X : Hx D (tX1 yT ++ (tX6 yT_0 ++ (tX9 yT_1 ++ (tX4 yP0 ++ (tX0 yP1))))) A s H1 locs1 (wX1 hT aT yT (sI (sI gT 4 (0 : Int32)) 5 (0 : Int32)) ++ (wX6 (aT 0) aT_0 yT_0 gT_0 ++ (wX9 (aT 1) aT_1 yT_1 gT_1 ++ (wX4 hP0 aP0 yP0 gP0 ++ (wX0 hP1 aP1 yP1 gP1))))) := Hx_after (isC := [29, 30, 31, 32, 33, 34, 35, 36, 37, 38, 39, 40, 41, 42, 43, 44]) (isR := [0, 1, 2, 3, 4, 5, 6, 7, 8, 9, 10, 11, 12, 13, 14, 15, 16, 17, 18, 19, 20, 21, 22, 23, 24, 25, 26, 27, 28]) (pm := [0, 1, 2, 3, 4, 5, 6, 7, 8, 9, 10, 11, 12, 13, 14, 15, 16, 17, 18, 19, 20, 21, 22, 23, 24, 25, 26, 27, 28, 29, 30, 31, 32, 33, 34, 35, 36, 37, 38, 39, 40, 41, 42, 43, 44]) (wr := wX1 hT aT yT (sI (sI gT 4 (0 : Int32)) 5 (0 : Int32)) ++ (wX6 (aT 0) aT_0 yT_0 gT_0 ++ (wX9 (aT 1) aT_1 yT_1 gT_1 ++ (wX4 hP0 aP0 yP0 gP0)))) X ⟨rfl, rfl, by decide, by decide, rfl, by decide⟩ ht hB hk hS
  clear hk hS ht hB
  generalize H1 = H at X ⊢
  generalize locs1 = locs at X ⊢
  refine lv_istore (lv' := [(5, .int q_3), (4, .int q_1), (0, .ref hT), (1, .ref hP0), (2, .ref hP1), (3, .int x2)]) hx hb dX1_run_22 hl (by decide) rfl (fun ls hl => ?_)
  refine lv_iconst (v := (0 : Int32)) hx hb dX1_run_24 (by decide) ?_
  refine lv_istore (lv' := [(6, .int (0 : Int32)), (5, .int q_3), (4, .int q_1), (0, .ref hT), (1, .ref hP0), (2, .ref hP1), (3, .int x2)]) hx hb dX1_run_25 hl (by decide) rfl (fun ls hl => ?_)
  exact (kL_X1_run l D hT aT yT aT_0 yT_0 aT_1 yT_1 hP0 aP0 yP0 hP1 aP1 yP1 n n) C X (lv_sub hl [3, 4, 5, 2, 1, 0] rfl) hF

/-! ### X1_start -/
theorem dX1_start_0 : decode cX1_start 0 = .ok (.iconst 0, 1) := by decide +kernel
theorem dX1_start_1 : decode cX1_start 1 = .ok (.istore_n 2, 1) := by decide +kernel
theorem dX1_start_2 : decode cX1_start 2 = .ok (.iload_n 2, 1) := by decide +kernel
theorem dX1_start_3 : decode cX1_start 3 = .ok (.aload_n 1, 1) := by decide +kernel
theorem dX1_start_4 : decode cX1_start 4 = .ok (.getfield 37, 3) := by decide +kernel
theorem dX1_start_7 : decode cX1_start 7 = .ok (.if_icmp .ge 104, 3) := by decide +kernel
theorem dX1_start_10 : decode cX1_start 10 = .ok (.aload_n 1, 1) := by decide +kernel
theorem dX1_start_11 : decode cX1_start 11 = .ok (.getfield 42, 3) := by decide +kernel
theorem dX1_start_14 : decode cX1_start 14 = .ok (.iload_n 2, 1) := by decide +kernel
theorem dX1_start_15 : decode cX1_start 15 = .ok (.iaload, 1) := by decide +kernel
theorem dX1_start_16 : decode cX1_start 16 = .ok (.istore_n 3, 1) := by decide +kernel
theorem dX1_start_17 : decode cX1_start 17 = .ok (.aload_n 0, 1) := by decide +kernel
theorem dX1_start_18 : decode cX1_start 18 = .ok (.aload_n 1, 1) := by decide +kernel
theorem dX1_start_19 : decode cX1_start 19 = .ok (.aload_n 1, 1) := by decide +kernel
theorem dX1_start_20 : decode cX1_start 20 = .ok (.getfield 46, 3) := by decide +kernel
theorem dX1_start_23 : decode cX1_start 23 = .ok (.iload_n 3, 1) := by decide +kernel
theorem dX1_start_24 : decode cX1_start 24 = .ok (.invokevirtual 50, 3) := by decide +kernel
theorem dX1_start_27 : decode cX1_start 27 = .ok (.ifCond .eq 26, 3) := by decide +kernel
theorem dX1_start_30 : decode cX1_start 30 = .ok (.aload_n 0, 1) := by decide +kernel
theorem dX1_start_31 : decode cX1_start 31 = .ok (.iload_n 2, 1) := by decide +kernel
theorem dX1_start_32 : decode cX1_start 32 = .ok (.aload_n 1, 1) := by decide +kernel
theorem dX1_start_33 : decode cX1_start 33 = .ok (.getfield 46, 3) := by decide +kernel
theorem dX1_start_36 : decode cX1_start 36 = .ok (.getfield 54, 3) := by decide +kernel
theorem dX1_start_39 : decode cX1_start 39 = .ok (.iload_n 3, 1) := by decide +kernel
theorem dX1_start_40 : decode cX1_start 40 = .ok (.iaload, 1) := by decide +kernel
theorem dX1_start_41 : decode cX1_start 41 = .ok (.aload_n 1, 1) := by decide +kernel
theorem dX1_start_42 : decode cX1_start 42 = .ok (.getfield 59, 3) := by decide +kernel
theorem dX1_start_45 : decode cX1_start 45 = .ok (.iload_n 2, 1) := by decide +kernel
theorem dX1_start_46 : decode cX1_start 46 = .ok (.iaload, 1) := by decide +kernel
theorem dX1_start_47 : decode cX1_start 47 = .ok (.invokevirtual 62, 3) := by decide +kernel
theorem dX1_start_50 : decode cX1_start 50 = .ok (.goto 19, 3) := by decide +kernel
theorem dX1_start_53 : decode cX1_start 53 = .ok (.aload_n 0, 1) := by decide +kernel
theorem dX1_start_54 : decode cX1_start 54 = .ok (.getfield 33, 3) := by decide +kernel
theorem dX1_start_57 : decode cX1_start 57 = .ok (.iload_n 2, 1) := by decide +kernel
theorem dX1_start_58 : decode cX1_start 58 = .ok (.aload_n 0, 1) := by decide +kernel
theorem dX1_start_59 : decode cX1_start 59 = .ok (.getfield 23, 3) := by decide +kernel
theorem dX1_start_62 : decode cX1_start 62 = .ok (.aload_n 0, 1) := by decide +kernel
theorem dX1_start_63 : decode cX1_start 63 = .ok (.getfield 26, 3) := by decide +kernel
theorem dX1_start_66 : decode cX1_start 66 = .ok (.invokevirtual 66, 3) := by decide +kernel
theorem dX1_start_69 : decode cX1_start 69 = .ok (.aload_n 0, 1) := by decide +kernel
theorem dX1_start_70 : decode cX1_start 70 = .ok (.getfield 33, 3) := by decide +kernel
theorem dX1_start_73 : decode cX1_start 73 = .ok (.getfield 71, 3) := by decide +kernel
theorem dX1_start_76 : decode cX1_start 76 = .ok (.iload_n 2, 1) := by decide +kernel
theorem dX1_start_77 : decode cX1_start 77 = .ok (.aload_n 0, 1) := by decide +kernel
theorem dX1_start_78 : decode cX1_start 78 = .ok (.getfield 33, 3) := by decide +kernel
theorem dX1_start_81 : decode cX1_start 81 = .ok (.getfield 74, 3) := by decide +kernel
theorem dX1_start_84 : decode cX1_start 84 = .ok (.iload_n 2, 1) := by decide +kernel
theorem dX1_start_85 : decode cX1_start 85 = .ok (.laload, 1) := by decide +kernel
theorem dX1_start_86 : decode cX1_start 86 = .ok (.lastore, 1) := by decide +kernel
theorem dX1_start_87 : decode cX1_start 87 = .ok (.aload_n 0, 1) := by decide +kernel
theorem dX1_start_88 : decode cX1_start 88 = .ok (.getfield 33, 3) := by decide +kernel
theorem dX1_start_91 : decode cX1_start 91 = .ok (.getfield 77, 3) := by decide +kernel
theorem dX1_start_94 : decode cX1_start 94 = .ok (.iload_n 2, 1) := by decide +kernel
theorem dX1_start_95 : decode cX1_start 95 = .ok (.aload_n 0, 1) := by decide +kernel
theorem dX1_start_96 : decode cX1_start 96 = .ok (.getfield 33, 3) := by decide +kernel
theorem dX1_start_99 : decode cX1_start 99 = .ok (.getfield 80, 3) := by decide +kernel
theorem dX1_start_102 : decode cX1_start 102 = .ok (.iload_n 2, 1) := by decide +kernel
theorem dX1_start_103 : decode cX1_start 103 = .ok (.daload, 1) := by decide +kernel
theorem dX1_start_104 : decode cX1_start 104 = .ok (.dastore, 1) := by decide +kernel
theorem dX1_start_105 : decode cX1_start 105 = .ok (.iinc 2 1, 3) := by decide +kernel
theorem dX1_start_108 : decode cX1_start 108 = .ok (.goto (-106), 3) := by decide +kernel
theorem dX1_start_111 : decode cX1_start 111 = .ok (.return_, 1) := by decide +kernel
abbrev R_X1_start : Room := ({ frames := 6, cells := 0, slots := 0, locals := 216 } : Room)
def b_X1_start_69 (n : Nat) (rec : (Gs → Gs → Gs → Gs → Gs → Int32 → Option (Gs × Gs))) (gT : Gs) (gT_0 : Gs) (gT_1 : Gs) (gP0 : Gs) (gP0_0 : Gs) (v2 : Int32) : Option (Gs × Gs) :=
  grd (inB v2 40) (grd (inB v2 40) (grd (inB v2 40) (grd (inB v2 40) (rec gT gT_0 (sDA (sLA gT_1 2 (vp_updL (gLA gT_1 2) v2.toNatClampNeg (gLA gT_1 0 v2.toNatClampNeg))) 3 (vf_upd (gDA gT_1 3) v2.toNatClampNeg (gDA gT_1 1 v2.toNatClampNeg))) gP0 gP0_0 (v2 + (1 : Int32))))))
def h_X1_start_2 (n : Nat) (rec : (Gs → Gs → Gs → Gs → Gs → Int32 → Option (Gs × Gs))) (gT : Gs) (gT_0 : Gs) (gT_1 : Gs) (gP0 : Gs) (gP0_0 : Gs) (v2 : Int32) : Option (Gs × Gs) :=
  if (gI gP0 4) ≤ v2 then (some (gT, gT_1)) else (grd (inB v2 40) (bnd (f_X1_run n gT gT_0 gT_1 gP0 gP0_0 (gIA gP0 9 v2.toNatClampNeg)) (fun q_2 => if q_2.1 = 0 then (bnd (f_X9_noteJam gT_1 v2 (gI q_2.2 5) (gI q_2.2 6)) (fun q_4 => b_X1_start_69 n rec q_2.2 gT_0 q_4 gP0 gP0_0 v2)) else (grd (inB (gIA gP0 9 v2.toNatClampNeg) 92) (grd (inB v2 40) (bnd (f_X1_store q_2.2 gT_1 v2 (gIA gP0_0 17 (gIA gP0 9 v2.toNatClampNeg).toNatClampNeg) (gIA gP0 7 v2.toNatClampNeg)) (fun q_12 => b_X1_start_69 n rec q_12.1 gT_0 q_12.2 gP0 gP0_0 v2)))))))
def L_X1_start (n : Nat) : Nat → (Gs → Gs → Gs → Gs → Gs → Int32 → Option (Gs × Gs))
  | 0 => ((fun _ _ _ _ _ _ => none))
  | k + 1 => (h_X1_start_2 n (L_X1_start n k))
def f_X1_start (n : Nat) (gT : Gs) (gT_0 : Gs) (gT_1 : Gs) (gP0 : Gs) (gP0_0 : Gs) : Option (Gs × Gs) :=
  (L_X1_start n n) gT gT_0 gT_1 gP0 gP0_0 (0 : Int32)
def S_X1_start_69 (l : Launch) (D : Dx) (hT : Nat) (aT : Nat → Nat) (yT : Nat → ClassId) (aT_0 : Nat → Nat) (yT_0 : Nat → ClassId) (aT_1 : Nat → Nat) (yT_1 : Nat → ClassId) (hP0 : Nat) (aP0 : Nat → Nat) (yP0 : Nat → ClassId) (aP0_0 : Nat → Nat) (yP0_0 : Nat → ClassId) (fn : Gs → Gs → Gs → Gs → Gs → Int32 → Option (Gs × Gs)) : Prop :=
  ∀ {p : Program} {e : Env} {s : State} {m : MethodId} {args : Array Value} {below : List Frame} {meth : Method} {c : Code} {H : Heap} {locs : List Loc} {A : Nat → Prop} {ls : Array Slot} {gT : Gs} {gT_0 : Gs} {gT_1 : Gs} {gP0 : Gs} {gP0_0 : Gs} {v2 : Int32} {q : Gs × Gs}, Cx p s m args meth c cX1_start none 4 RX1 lw_all → Hx D (tX1 yT ++ (tX6 yT_0 ++ (tX9 yT_1 ++ (tX4 yP0 ++ (tX0 yP0_0))))) A s H locs (wX1 hT aT yT gT ++ (wX6 (aT 0) aT_0 yT_0 gT_0 ++ (wX9 (aT 1) aT_1 yT_1 gT_1 ++ (wX4 hP0 aP0 yP0 gP0 ++ (wX0 (aP0 0) aP0_0 yP0_0 gP0_0))))) → lv_has ls 4 [(0, .ref hT), (1, .ref hP0), (2, .int v2)] → fn gT gT_0 gT_1 gP0 gP0_0 v2 = some q → W p l e R_X1_start s m args below meth c H locs 0 0 (MQ below (QV D A (wX1 hT aT yT q.1 ++ (wX6 (aT 0) aT_0 yT_0 gT_0 ++ (wX9 (aT 1) aT_1 yT_1 q.2 ++ (wX4 hP0 aP0 yP0 gP0 ++ (wX0 (aP0 0) aP0_0 yP0_0 gP0_0)))))) args s 0 0 A) (F0 m 69 ls [])
def S_X1_start_2 (l : Launch) (D : Dx) (hT : Nat) (aT : Nat → Nat) (yT : Nat → ClassId) (aT_0 : Nat → Nat) (yT_0 : Nat → ClassId) (aT_1 : Nat → Nat) (yT_1 : Nat → ClassId) (hP0 : Nat) (aP0 : Nat → Nat) (yP0 : Nat → ClassId) (aP0_0 : Nat → Nat) (yP0_0 : Nat → ClassId) (fn : Gs → Gs → Gs → Gs → Gs → Int32 → Option (Gs × Gs)) : Prop :=
  ∀ {p : Program} {e : Env} {s : State} {m : MethodId} {args : Array Value} {below : List Frame} {meth : Method} {c : Code} {H : Heap} {locs : List Loc} {A : Nat → Prop} {ls : Array Slot} {gT : Gs} {gT_0 : Gs} {gT_1 : Gs} {gP0 : Gs} {gP0_0 : Gs} {v2 : Int32} {q : Gs × Gs}, Cx p s m args meth c cX1_start none 4 RX1 lw_all → Hx D (tX1 yT ++ (tX6 yT_0 ++ (tX9 yT_1 ++ (tX4 yP0 ++ (tX0 yP0_0))))) A s H locs (wX1 hT aT yT gT ++ (wX6 (aT 0) aT_0 yT_0 gT_0 ++ (wX9 (aT 1) aT_1 yT_1 gT_1 ++ (wX4 hP0 aP0 yP0 gP0 ++ (wX0 (aP0 0) aP0_0 yP0_0 gP0_0))))) → lv_has ls 4 [(0, .ref hT), (1, .ref hP0), (2, .int v2)] → fn gT gT_0 gT_1 gP0 gP0_0 v2 = some q → W p l e R_X1_start s m args below meth c H locs 0 0 (MQ below (QV D A (wX1 hT aT yT q.1 ++ (wX6 (aT 0) aT_0 yT_0 gT_0 ++ (wX9 (aT 1) aT_1 yT_1 q.2 ++ (wX4 hP0 aP0 yP0 gP0 ++ (wX0 (aP0 0) aP0_0 yP0_0 gP0_0)))))) args s 0 0 A) (F0 m 2 ls [])
def SH_X1_start (l : Launch) (D : Dx) (hT : Nat) (aT : Nat → Nat) (yT : Nat → ClassId) (aT_0 : Nat → Nat) (yT_0 : Nat → ClassId) (aT_1 : Nat → Nat) (yT_1 : Nat → ClassId) (hP0 : Nat) (aP0 : Nat → Nat) (yP0 : Nat → ClassId) (aP0_0 : Nat → Nat) (yP0_0 : Nat → ClassId) (rec : (Gs → Gs → Gs → Gs → Gs → Int32 → Option (Gs × Gs))) : Prop := S_X1_start_2 l D hT aT yT aT_0 yT_0 aT_1 yT_1 hP0 aP0 yP0 aP0_0 yP0_0 rec
set_option maxHeartbeats 4000000 in
set_option maxRecDepth 100000 in
theorem k_X1_start_69 (l : Launch) (D : Dx) (hT : Nat) (aT : Nat → Nat) (yT : Nat → ClassId) (aT_0 : Nat → Nat) (yT_0 : Nat → ClassId) (aT_1 : Nat → Nat) (yT_1 : Nat → ClassId) (hP0 : Nat) (aP0 : Nat → Nat) (yP0 : Nat → ClassId) (aP0_0 : Nat → Nat) (yP0_0 : Nat → ClassId) (n : Nat) (rec : (Gs → Gs → Gs → Gs → Gs → Int32 → Option (Gs × Gs))) (IH : SH_X1_start l D hT aT yT aT_0 yT_0 aT_1 yT_1 hP0 aP0 yP0 aP0_0 yP0_0 rec) : S_X1_start_69 l D hT aT yT aT_0 yT_0 aT_1 yT_1 hP0 aP0 yP0 aP0_0 yP0_0 (b_X1_start_69 n rec) := by
  intro p e s m args below meth c H locs A ls gT gT_0 gT_1 gP0 gP0_0 v2 q C X hl hF
  obtain ⟨hx, hb, hr, hml, hown, hts, hlk⟩ := id C
  unfold b_X1_start_69 at hF
  refine lv_aload_n hx hb dX1_start_69 rfl (lv_at hl 0 rfl) ?_
  refine va_get (D := D.1) (ci := 1) (v := .ref (aT 1)) (C := RX1) (T := TX1) (N := 7) hx hb hts wi_X1 hown X.1 X.2.1 0 rfl rfl 1 (by decide) (hts _ q1_138) (fun _ h9 => h9) (fl_get (by decide)) dX1_start_70 ?_
  refine va_getN (D := D.1) (ci := 9) (v := .ref (aT_1 2)) (C := RX9) (T := TX9) (N := 17) hx hb hts wi_X9 hown X.1 X.2.1 5 rfl rfl 2 (by decide) (X.2.2.2.2.2.1.use q1_60 rfl) (fun _ h9 => h9) (fl_get (by decide)) dX1_start_73 ?_
  refine lv_iload_n hx hb dX1_start_76 rfl (lv_at hl 2 rfl) ?_
  refine lv_aload_n hx hb dX1_start_77 rfl (lv_at hl 0 rfl) ?_
  refine va_get (D := D.1) (ci := 1) (v := .ref (aT 1)) (C := RX1) (T := TX1) (N := 7) hx hb hts wi_X1 hown X.1 X.2.1 0 rfl rfl 1 (by decide) (hts _ q1_138) (fun _ h9 => h9) (fl_get (by decide)) dX1_start_78 ?_
  refine va_getN (D := D.1) (ci := 9) (v := .ref (aT_1 0)) (C := RX9) (T := TX9) (N := 17) hx hb hts wi_X9 hown X.1 X.2.1 5 rfl rfl 0 (by decide) (X.2.2.2.2.2.1.use q1_54 rfl) (fun _ h9 => h9) (fl_get (by decide)) dX1_start_81 ?_
  refine lv_iload_n hx hb dX1_start_84 rfl (lv_at hl 2 rfl) ?_
  obtain ⟨h_6, hF⟩ := grd_some hF
  refine va_lald (D := D.1) (f := gLA gT_1 0) hx hb X.1 X.2.1 6 3 rfl rfl (inB_ok h_6) dX1_start_85 ?_
  obtain ⟨h_7, hF⟩ := grd_some hF
  refine va_last (D := D.1) (f := gLA gT_1 2) hx hb X.1 X.2.1 X.2.2.1 X.2.2.2.1 8 5 rfl rfl (inB_ok h_7) dX1_start_86 (fun H locs hP hD hS => ?_)
  have X : Hx D (tX1 yT ++ (tX6 yT_0 ++ (tX9 yT_1 ++ (tX4 yP0 ++ (tX0 yP0_0))))) A s H locs (wX1 hT aT yT gT ++ (wX6 (aT 0) aT_0 yT_0 gT_0 ++ (wX9 (aT 1) aT_1 yT_1 (sLA gT_1 2 (vp_updL (gLA gT_1 2) v2.toNatClampNeg (gLA gT_1 0 v2.toNatClampNeg))) ++ (wX4 hP0 aP0 yP0 gP0 ++ (wX0 (aP0 0) aP0_0 yP0_0 gP0_0))))) := Hx_set X (set_r (n := 3) (i := 5) (j := 8) (wG_len rfl) rfl (set_r (n := 2) (i := 3) (j := 5) (wG_len rfl) rfl (set_l (by rw [wG_len (m := 13) rfl]; decide) (wG_sLA (i := 2) (k := 2) ndX9 rfl rfl)))) hP hD hS
  refine lv_aload_n hx hb dX1_start_87 rfl (lv_at hl 0 rfl) ?_
  refine va_get (D := D.1) (ci := 1) (v := .ref (aT 1)) (C := RX1) (T := TX1) (N := 7) hx hb hts wi_X1 hown X.1 X.2.1 0 rfl rfl 1 (by decide) (hts _ q1_138) (fun _ h9 => h9) (fl_get (by decide)) dX1_start_88 ?_
  refine va_getN (D := D.1) (ci := 9) (v := .ref (aT_1 3)) (C := RX9) (T := TX9) (N := 17) hx hb hts wi_X9 hown X.1 X.2.1 5 rfl rfl 3 (by decide) (X.2.2.2.2.2.1.use q1_63 rfl) (fun _ h9 => h9) (fl_get (by decide)) dX1_start_91 ?_
  refine lv_iload_n hx hb dX1_start_94 rfl (lv_at hl 2 rfl) ?_
  refine lv_aload_n hx hb dX1_start_95 rfl (lv_at hl 0 rfl) ?_
  refine va_get (D := D.1) (ci := 1) (v := .ref (aT 1)) (C := RX1) (T := TX1) (N := 7) hx hb hts wi_X1 hown X.1 X.2.1 0 rfl rfl 1 (by decide) (hts _ q1_138) (fun _ h9 => h9) (fl_get (by decide)) dX1_start_96 ?_
  refine va_getN (D := D.1) (ci := 9) (v := .ref (aT_1 1)) (C := RX9) (T := TX9) (N := 17) hx hb hts wi_X9 hown X.1 X.2.1 5 rfl rfl 1 (by decide) (X.2.2.2.2.2.1.use q1_57 rfl) (fun _ h9 => h9) (fl_get (by decide)) dX1_start_99 ?_
  refine lv_iload_n hx hb dX1_start_102 rfl (lv_at hl 2 rfl) ?_
  obtain ⟨h_8, hF⟩ := grd_some hF
  refine va_dald (D := D.1) (f := gDA gT_1 1) hx hb X.1 X.2.1 7 4 rfl rfl (inB_ok h_8) dX1_start_103 ?_
  obtain ⟨h_9, hF⟩ := grd_some hF
  refine va_dast (D := D.1) (f := gDA gT_1 3) hx hb X.1 X.2.1 X.2.2.1 X.2.2.2.1 9 6 rfl rfl (inB_ok h_9) dX1_start_104 (fun H locs hP hD hS => ?_)
  have X : Hx D (tX1 yT ++ (tX6 yT_0 ++ (tX9 yT_1 ++ (tX4 yP0 ++ (tX0 yP0_0))))) A s H locs (wX1 hT aT yT gT ++ (wX6 (aT 0) aT_0 yT_0 gT_0 ++ (wX9 (aT 1) aT_1 yT_1 (sDA (sLA gT_1 2 (vp_updL (gLA gT_1 2) v2.toNatClampNeg (gLA gT_1 0 v2.toNatClampNeg))) 3 (vf_upd (gDA gT_1 3) v2.toNatClampNeg (gDA gT_1 1 v2.toNatClampNeg))) ++ (wX4 hP0 aP0 yP0 gP0 ++ (wX0 (aP0 0) aP0_0 yP0_0 gP0_0))))) := Hx_set X (set_r (n := 3) (i := 6) (j := 9) (wG_len rfl) rfl (set_r (n := 2) (i := 4) (j := 6) (wG_len rfl) rfl (set_l (by rw [wG_len (m := 13) rfl]; decide) (wG_sDA (i := 3) (k := 3) ndX9 rfl rfl)))) hP hD hS
  refine lv_iinc (v := v2 + (1 : Int32)) (lv' := [(2, .int (v2 + (1 : Int32))), (0, .ref hT), (1, .ref hP0)]) hx hb dX1_start_105 hl (k := 2) rfl rfl (by decide) rfl (fun ls hl => ?_)
  refine lv_goto (tgt := 2) hx hb dX1_start_108 (by decide) ?_
  exact IH C X (lv_sub hl [1, 2, 0] rfl) hF
set_option maxHeartbeats 4000000 in
set_option maxRecDepth 100000 in
theorem k_X1_start_2 (l : Launch) (D : Dx) (hT : Nat) (aT : Nat → Nat) (yT : Nat → ClassId) (aT_0 : Nat → Nat) (yT_0 : Nat → ClassId) (aT_1 : Nat → Nat) (yT_1 : Nat → ClassId) (hP0 : Nat) (aP0 : Nat → Nat) (yP0 : Nat → ClassId) (aP0_0 : Nat → Nat) (yP0_0 : Nat → ClassId) (n : Nat) (rec : (Gs → Gs → Gs → Gs → Gs → Int32 → Option (Gs × Gs))) (IH : SH_X1_start l D hT aT yT aT_0 yT_0 aT_1 yT_1 hP0 aP0 yP0 aP0_0 yP0_0 rec) : S_X1_start_2 l D hT aT yT aT_0 yT_0 aT_1 yT_1 hP0 aP0 yP0 aP0_0 yP0_0 (h_X1_start_2 n rec) := by
  intro p e s m args below meth c H locs A ls gT gT_0 gT_1 gP0 gP0_0 v2 q C X hl hF
  obtain ⟨hx, hb, hr, hml, hown, hts, hlk⟩ := id C
  unfold h_X1_start_2 at hF
  refine lv_iload_n hx hb dX1_start_2 rfl (lv_at hl 2 rfl) ?_
  refine lv_aload_n hx hb dX1_start_3 rfl (lv_at hl 1 rfl) ?_
  refine va_getN (D := D.1) (ci := 4) (v := .int (gI gP0 4)) (C := RX4) (T := TX4) (N := 14) hx hb hts wi_X4 hown X.1 X.2.1 18 rfl rfl 4 (by decide) (X.2.2.2.2.2.1.use q2_80 rfl) (fun _ h9 => h9) (fl_get (by decide)) dX1_start_4 ?_
  refine lv_icmp_ge (tgt := 111) hx hb dX1_start_7 (by decide) (fun c => ?_) (fun c => ?_)
  · replace hF := iT c hF
    have hq := Option.some.inj hF
    subst hq
    exact rt_v C X dX1_start_111
  · replace hF := iF c hF
    refine lv_aload_n hx hb dX1_start_10 rfl (lv_at hl 1 rfl) ?_
    refine va_getN (D := D.1) (ci := 4) (v := .ref (aP0 9)) (C := RX4) (T := TX4) (N := 14) hx hb hts wi_X4 hown X.1 X.2.1 18 rfl rfl 9 (by decide) (X.2.2.2.2.2.1.use q2_103 rfl) (fun _ h9 => h9) (fl_get (by decide)) dX1_start_11 ?_
    refine lv_iload_n hx hb dX1_start_14 rfl (lv_at hl 2 rfl) ?_
    obtain ⟨h_1, hF⟩ := grd_some hF
    refine va_iald (D := D.1) (f := gIA gP0 9) hx hb X.1 X.2.1 24 20 rfl rfl (inB_ok h_1) dX1_start_15 ?_
    refine lv_istore_n (lv' := [(3, .int (gIA gP0 9 v2.toNatClampNeg)), (0, .ref hT), (1, .ref hP0), (2, .int v2)]) hx hb dX1_start_16 rfl hl (by decide) rfl (fun ls hl => ?_)
    refine lv_aload_n hx hb dX1_start_17 rfl (lv_at hl 1 rfl) ?_
    refine lv_aload_n hx hb dX1_start_18 rfl (lv_at hl 2 rfl) ?_
    refine lv_aload_n hx hb dX1_start_19 rfl (lv_at hl 2 rfl) ?_
    refine va_getN (D := D.1) (ci := 4) (v := .ref (aP0 0)) (C := RX4) (T := TX4) (N := 14) hx hb hts wi_X4 hown X.1 X.2.1 18 rfl rfl 0 (by decide) (X.2.2.2.2.2.1.use q2_69 rfl) (fun _ h9 => h9) (fl_get (by decide)) dX1_start_20 ?_
    refine lv_iload_n hx hb dX1_start_23 rfl (lv_at hl 0 rfl) ?_
    obtain ⟨q_2, hc_3, hF⟩ := bnd_some hF
    refine cV_i (As := [.ref hP0, .ref (aP0 0), .int (gIA gP0 9 v2.toNatClampNeg)]) (rest := []) C X (c_X1_run l D hT aT yT aT_0 yT_0 aT_1 yT_1 hP0 aP0 yP0 (aP0 0) aP0_0 yP0_0 n gT gT_0 gT_1 gP0 gP0_0 (gIA gP0 9 v2.toNatClampNeg) q_2 hc_3 _) (cwV 3 hts (good_V q5_32 q5_33 q5_34 q1_4 q5_35) rfl rfl rfl (by decide +kernel) ⟨Nat.le_of_ble_eq_true rfl, Nat.le_of_ble_eq_true rfl⟩) (va_recv X.1 X.2.1 (ci := 1) (q0 := 0) rfl rfl) X.1 X.2.1 X.2.2.1 (free_all X) hl.1 rfl rfl (Nat.le_of_ble_eq_true rfl) dX1_start_24 ⟨Nat.le_of_ble_eq_true rfl, Nat.le_of_ble_eq_true rfl⟩ (fun t H1 locs1 ht hB hk hS => ?_)
    have X : Hx D (tX1 yT ++ (tX6 yT_0 ++ (tX9 yT_1 ++ (tX4 yP0 ++ (tX0 yP0_0))))) A s H1 locs1 (wX1 hT aT yT q_2.2 ++ (wX6 (aT 0) aT_0 yT_0 gT_0 ++ (wX9 (aT 1) aT_1 yT_1 gT_1 ++ (wX4 hP0 aP0 yP0 gP0 ++ (wX0 (aP0 0) aP0_0 yP0_0 gP0_0))))) := Hx_after_all X ht hB hS
    clear hk hS ht hB
    generalize H1 = H at X ⊢
    generalize locs1 = locs at X ⊢
    refine lv_if_eq (tgt := 53) hx hb dX1_start_27 (by decide) (fun c => ?_) (fun c => ?_)
    · replace hF := iT c hF
      refine lv_aload_n hx hb dX1_start_53 rfl (lv_at hl 1 rfl) ?_
      refine va_get (D := D.1) (ci := 1) (v := .ref (aT 1)) (C := RX1) (T := TX1) (N := 7) hx hb hts wi_X1 hown X.1 X.2.1 0 rfl rfl 1 (by decide) (hts _ q1_138) (fun _ h9 => h9) (fl_get (by decide)) dX1_start_54 ?_
      refine lv_iload_n hx hb dX1_start_57 rfl (lv_at hl 3 rfl) ?_
      refine lv_aload_n hx hb dX1_start_58 rfl (lv_at hl 1 rfl) ?_
      refine va_get (D := D.1) (ci := 1) (v := .int (gI q_2.2 5)) (C := RX1) (T := TX1) (N := 7) hx hb hts wi_X1 hown X.1 X.2.1 0 rfl rfl 5 (by decide) (hts _ q1_144) (fun _ h9 => h9) (fl_get (by decide)) dX1_start_59 ?_
      refine lv_aload_n hx hb dX1_start_62 rfl (lv_at hl 1 rfl) ?_
      refine va_get (D := D.1) (ci := 1) (v := .int (gI q_2.2 6)) (C := RX1) (T := TX1) (N := 7) hx hb hts wi_X1 hown X.1 X.2.1 0 rfl rfl 6 (by decide) (hts _ q1_146) (fun _ h9 => h9) (fl_get (by decide)) dX1_start_63 ?_
      obtain ⟨q_4, hc_5, hF⟩ := bnd_some hF
      refine cV_v (As := [.int v2, .int (gI q_2.2 5), .int (gI q_2.2 6)]) (rest := []) C X (c_X9_noteJam l D (aT 1) aT_1 yT_1 gT_1 v2 (gI q_2.2 5) (gI q_2.2 6) q_4 hc_5 _) (cwV 3 hts (good_V q5_144 q5_145 q5_146 q1_3 q5_147) rfl rfl rfl (by decide +kernel) ⟨Nat.le_of_ble_eq_true rfl, Nat.le_of_ble_eq_true rfl⟩) (va_recv X.1 X.2.1 (ci := 9) (q0 := 5) rfl rfl) (X.1.sub (tys' := tX9 yT_1) [3, 4, 5, 6, 7, 8, 9, 10, 11, 12, 13, 14] rfl) (X.2.1.sub (ws' := wX9 (aT 1) aT_1 yT_1 gT_1) [5, 6, 7, 8, 9, 10, 11, 12, 13, 14, 15, 16, 17] rfl) (X.2.2.1.sub (ws' := wX9 (aT 1) aT_1 yT_1 gT_1) [5, 6, 7, 8, 9, 10, 11, 12, 13, 14, 15, 16, 17] (by decide) rfl) (free_of (wC := wX9 (aT 1) aT_1 yT_1 gT_1) (isC := [5, 6, 7, 8, 9, 10, 11, 12, 13, 14, 15, 16, 17]) X rfl) hl.1 rfl rfl (Nat.le_of_ble_eq_true rfl) dX1_start_66 ⟨Nat.le_of_ble_eq_true rfl, Nat.le_of_ble_eq_true rfl⟩ (fun t H1 locs1 ht hB hk hS => ?_)
      have X : Hx D (tX1 yT ++ (tX6 yT_0 ++ (tX9 yT_1 ++ (tX4 yP0 ++ (tX0 yP0_0))))) A s H1 locs1 (wX1 hT aT yT q_2.2 ++ (wX6 (aT 0) aT_0 yT_0 gT_0 ++ (wX9 (aT 1) aT_1 yT_1 q_4 ++ (wX4 hP0 aP0 yP0 gP0 ++ (wX0 (aP0 0) aP0_0 yP0_0 gP0_0))))) := Hx_after (isC := [5, 6, 7, 8, 9, 10, 11, 12, 13, 14, 15, 16, 17]) (isR := [0, 1, 2, 3, 4, 18, 19, 20, 21, 22, 23, 24, 25, 26, 27, 28, 29, 30, 31, 32, 33, 34, 35, 36, 37, 38, 39, 40, 41, 42, 43, 44]) (pm := [0, 1, 2, 3, 4, 32, 33, 34, 35, 36, 37, 38, 39, 40, 41, 42, 43, 44, 5, 6, 7, 8, 9, 10, 11, 12, 13, 14, 15, 16, 17, 18, 19, 20, 21, 22, 23, 24, 25, 26, 27, 28, 29, 30, 31]) (wr := wX1 hT aT yT q_2.2 ++ (wX6 (aT 0) aT_0 yT_0 gT_0 ++ (wX4 hP0 aP0 yP0 gP0 ++ (wX0 (aP0 0) aP0_0 yP0_0 gP0_0)))) X ⟨rfl, rfl, by decide, by decide, rfl, by decide⟩ ht hB hk hS
      clear hk hS ht hB
      generalize H1 = H at X ⊢
      generalize locs1 = locs at X ⊢
      exact (k_X1_start_69 l D hT aT yT aT_0 yT_0 aT_1 yT_1 hP0 aP0 yP0 aP0_0 yP0_0 n rec IH) C X (lv_sub hl [1, 2, 3] rfl) hF
    · replace hF := iF c hF
      refine lv_aload_n hx hb dX1_start_30 rfl (lv_at hl 1 rfl) ?_
      refine lv_iload_n hx hb dX1_start_31 rfl (lv_at hl 3 rfl) ?_
      refine lv_aload_n hx hb dX1_start_32 rfl (lv_at hl 2 rfl) ?_
      refine va_getN (D := D.1) (ci := 4) (v := .ref (aP0 0)) (C := RX4) (T := TX4) (N := 14) hx hb hts wi_X4 hown X.1 X.2.1 18 rfl rfl 0 (by decide) (X.2.2.2.2.2.1.use q2_69 rfl) (fun _ h9 => h9) (fl_get (by decide)) dX1_start_33 ?_
      refine va_getN (D := D.1) (ci := 0) (v := .ref (aP0_0 17)) (C := RX0) (T := TX0) (N := 19) hx hb hts wi_X0 hown X.1 X.2.1 29 rfl rfl 17 (by decide) (X.2.2.2.2.2.1.use q2_21 rfl) (fun _ h9 => h9) (fl_get (by decide)) dX1_start_36 ?_
      refine lv_iload_n hx hb dX1_start_39 rfl (lv_at hl 0 rfl) ?_
      obtain ⟨h_10, hF⟩ := grd_some hF
      refine va_iald (D := D.1) (f := gIA gP0_0 17) hx hb X.1 X.2.1 44 39 rfl rfl (inB_ok h_10) dX1_start_40 ?_
      refine lv_aload_n hx hb dX1_start_41 rfl (lv_at hl 2 rfl) ?_
      refine va_getN (D := D.1) (ci := 4) (v := .ref (aP0 7)) (C := RX4) (T := TX4) (N := 14) hx hb hts wi_X4 hown X.1 X.2.1 18 rfl rfl 7 (by decide) (X.2.2.2.2.2.1.use q2_95 rfl) (fun _ h9 => h9) (fl_get (by decide)) dX1_start_42 ?_
      refine lv_iload_n hx hb dX1_start_45 rfl (lv_at hl 3 rfl) ?_
      obtain ⟨h_11, hF⟩ := grd_some hF
      refine va_iald (D := D.1) (f := gIA gP0 7) hx hb X.1 X.2.1 22 18 rfl rfl (inB_ok h_11) dX1_start_46 ?_
      obtain ⟨q_12, hc_13, hF⟩ := bnd_some hF
      refine cV_v (As := [.int v2, .int (gIA gP0_0 17 (gIA gP0 9 v2.toNatClampNeg).toNatClampNeg), .int (gIA gP0 7 v2.toNatClampNeg)]) (rest := []) C X (c_X1_store l D hT aT yT aT_1 yT_1 q_2.2 gT_1 v2 (gIA gP0_0 17 (gIA gP0 9 v2.toNatClampNeg).toNatClampNeg) (gIA gP0 7 v2.toNatClampNeg) q_12 hc_13 _) (cwV 3 hts (good_V q5_140 q5_142 q0_57 q1_4 q5_143) rfl rfl rfl (by decide +kernel) ⟨Nat.le_of_ble_eq_true rfl, Nat.le_of_ble_eq_true rfl⟩) (va_recv X.1 X.2.1 (ci := 1) (q0 := 0) rfl rfl) (X.1.sub (tys' := tX1 yT ++ (tX9 yT_1)) [0, 1, 3, 4, 5, 6, 7, 8, 9, 10, 11, 12, 13, 14] rfl) (X.2.1.sub (ws' := wX1 hT aT yT q_2.2 ++ (wX9 (aT 1) aT_1 yT_1 gT_1)) [0, 1, 2, 5, 6, 7, 8, 9, 10, 11, 12, 13, 14, 15, 16, 17] rfl) (X.2.2.1.sub (ws' := wX1 hT aT yT q_2.2 ++ (wX9 (aT 1) aT_1 yT_1 gT_1)) [0, 1, 2, 5, 6, 7, 8, 9, 10, 11, 12, 13, 14, 15, 16, 17] (by decide) rfl) (free_of (wC := wX1 hT aT yT q_2.2 ++ (wX9 (aT 1) aT_1 yT_1 gT_1)) (isC := [0, 1, 2, 5, 6, 7, 8, 9, 10, 11, 12, 13, 14, 15, 16, 17]) X rfl) hl.1 rfl rfl (Nat.le_of_ble_eq_true rfl) dX1_start_47 ⟨Nat.le_of_ble_eq_true rfl, Nat.le_of_ble_eq_true rfl⟩ (fun t H1 locs1 ht hB hk hS => ?_)
      have X : Hx D (tX1 yT ++ (tX6 yT_0 ++ (tX9 yT_1 ++ (tX4 yP0 ++ (tX0 yP0_0))))) A s H1 locs1 (wX1 hT aT yT q_12.1 ++ (wX6 (aT 0) aT_0 yT_0 gT_0 ++ (wX9 (aT 1) aT_1 yT_1 q_12.2 ++ (wX4 hP0 aP0 yP0 gP0 ++ (wX0 (aP0 0) aP0_0 yP0_0 gP0_0))))) := Hx_after (isC := [0, 1, 2, 5, 6, 7, 8, 9, 10, 11, 12, 13, 14, 15, 16, 17]) (isR := [3, 4, 18, 19, 20, 21, 22, 23, 24, 25, 26, 27, 28, 29, 30, 31, 32, 33, 34, 35, 36, 37, 38, 39, 40, 41, 42, 43, 44]) (pm := [29, 30, 31, 0, 1, 32, 33, 34, 35, 36, 37, 38, 39, 40, 41, 42, 43, 44, 2, 3, 4, 5, 6, 7, 8, 9, 10, 11, 12, 13, 14, 15, 16, 17, 18, 19, 20, 21, 22, 23, 24, 25, 26, 27, 28]) (wr := wX6 (aT 0) aT_0 yT_0 gT_0 ++ (wX4 hP0 aP0 yP0 gP0 ++ (wX0 (aP0 0) aP0_0 yP0_0 gP0_0))) X ⟨rfl, rfl, by decide, by decide, rfl, by decide⟩ ht hB hk hS
      clear hk hS ht hB
      generalize H1 = H at X ⊢
      generalize locs1 = locs at X ⊢
      refine lv_goto (tgt := 69) hx hb dX1_start_50 (by decide) ?_
      exact (k_X1_start_69 l D hT aT yT aT_0 yT_0 aT_1 yT_1 hP0 aP0 yP0 aP0_0 yP0_0 n rec IH) C X (lv_sub hl [1, 2, 3] rfl) hF
theorem kL_X1_start (l : Launch) (D : Dx) (hT : Nat) (aT : Nat → Nat) (yT : Nat → ClassId) (aT_0 : Nat → Nat) (yT_0 : Nat → ClassId) (aT_1 : Nat → Nat) (yT_1 : Nat → ClassId) (hP0 : Nat) (aP0 : Nat → Nat) (yP0 : Nat → ClassId) (aP0_0 : Nat → Nat) (yP0_0 : Nat → ClassId) (n : Nat) : ∀ k, SH_X1_start l D hT aT yT aT_0 yT_0 aT_1 yT_1 hP0 aP0 yP0 aP0_0 yP0_0 (L_X1_start n k)
  | 0 => fun _ _ _ h => by cases h
  | k + 1 => k_X1_start_2 l D hT aT yT aT_0 yT_0 aT_1 yT_1 hP0 aP0 yP0 aP0_0 yP0_0 n _ (kL_X1_start l D hT aT yT aT_0 yT_0 aT_1 yT_1 hP0 aP0 yP0 aP0_0 yP0_0 n k)
set_option maxHeartbeats 4000000 in
set_option maxRecDepth 100000 in
theorem c_X1_start (l : Launch) (D : Dx) (hT : Nat) (aT : Nat → Nat) (yT : Nat → ClassId) (aT_0 : Nat → Nat) (yT_0 : Nat → ClassId) (aT_1 : Nat → Nat) (yT_1 : Nat → ClassId) (hP0 : Nat) (aP0 : Nat → Nat) (yP0 : Nat → ClassId) (aP0_0 : Nat → Nat) (yP0_0 : Nat → ClassId) (n : Nat) (gT : Gs) (gT_0 : Gs) (gT_1 : Gs) (gP0 : Gs) (gP0_0 : Gs) (q : Gs × Gs) (hF : f_X1_start n gT gT_0 gT_1 gP0 gP0_0 = some q) (sz : Nat) : Met l yX1_start (ws_ yX1_start cX1_start 4 none) R_X1_start (PC D (tX1 yT ++ (tX6 yT_0 ++ (tX9 yT_1 ++ (tX4 yP0 ++ (tX0 yP0_0))))) [.ref hT, .ref hP0] (wX1 hT aT yT gT ++ (wX6 (aT 0) aT_0 yT_0 gT_0 ++ (wX9 (aT 1) aT_1 yT_1 gT_1 ++ (wX4 hP0 aP0 yP0 gP0 ++ (wX0 (aP0 0) aP0_0 yP0_0 gP0_0))))) sz) (QV D (va_A (wX1 hT aT yT gT ++ (wX6 (aT 0) aT_0 yT_0 gT_0 ++ (wX9 (aT 1) aT_1 yT_1 gT_1 ++ (wX4 hP0 aP0 yP0 gP0 ++ (wX0 (aP0 0) aP0_0 yP0_0 gP0_0))))) sz) (wX1 hT aT yT q.1 ++ (wX6 (aT 0) aT_0 yT_0 gT_0 ++ (wX9 (aT 1) aT_1 yT_1 q.2 ++ (wX4 hP0 aP0 yP0 gP0 ++ (wX0 (aP0 0) aP0_0 yP0_0 gP0_0)))))) 0 0 (va_A (wX1 hT aT yT gT ++ (wX6 (aT 0) aT_0 yT_0 gT_0 ++ (wX9 (aT 1) aT_1 yT_1 gT_1 ++ (wX4 hP0 aP0 yP0 gP0 ++ (wX0 (aP0 0) aP0_0 yP0_0 gP0_0))))) sz) := by
  refine Met.ofW (cc := cX1_start) (maxL := 4) (ret := none) (by decide) rfl ?_
  intro p e s m args below meth c s₁ B hml hv
  obtain ⟨rfl, hsz, hP, hK, hD, hN⟩ := hv
  subst hsz
  have C : Cx p s m _ meth c cX1_start none 4 RX1 lw_all := Cx_of B hml
  have X := Hx_start hP hK hD hN
  obtain ⟨hx, hb, hr, -, hown, hts, hlk⟩ := id C
  generalize va_A (wX1 hT aT yT gT ++ (wX6 (aT 0) aT_0 yT_0 gT_0 ++ (wX9 (aT 1) aT_1 yT_1 gT_1 ++ (wX4 hP0 aP0 yP0 gP0 ++ (wX0 (aP0 0) aP0_0 yP0_0 gP0_0))))) s.heap.size = A at X ⊢
  have hl := lv_entry ([.ref hT, .ref hP0]) (n := 4) (Nat.le_of_ble_eq_true rfl)
  rw [lg_entry_eq]
  generalize (lg_sl ([.ref hT, .ref hP0]) ++ List.replicate (4 - (lg_sl ([.ref hT, .ref hP0])).length) Slot.unset).toArray = ls at hl ⊢
  have hl : lv_has ls 4 [(0, .ref hT), (1, .ref hP0)] := hl
  unfold f_X1_start at hF
  refine lv_iconst (v := (0 : Int32)) hx hb dX1_start_0 (by decide) ?_
  refine lv_istore_n (lv' := [(2, .int (0 : Int32)), (0, .ref hT), (1, .ref hP0)]) hx hb dX1_start_1 rfl hl (by decide) rfl (fun ls hl => ?_)
  exact (kL_X1_start l D hT aT yT aT_0 yT_0 aT_1 yT_1 hP0 aP0 yP0 aP0_0 yP0_0 n n) C X (lv_sub hl [1, 2, 0] rfl) hF

/-! ### X1_turn -/
theorem dX1_turn_0 : decode cX1_turn 0 = .ok (.aload_n 0, 1) := by decide +kernel
theorem dX1_turn_1 : decode cX1_turn 1 = .ok (.getfield 33, 3) := by decide +kernel
theorem dX1_turn_4 : decode cX1_turn 4 = .ok (.invokevirtual 83, 3) := by decide +kernel
theorem dX1_turn_7 : decode cX1_turn 7 = .ok (.aload_n 1, 1) := by decide +kernel
theorem dX1_turn_8 : decode cX1_turn 8 = .ok (.getfield 37, 3) := by decide +kernel
theorem dX1_turn_11 : decode cX1_turn 11 = .ok (.aload_n 1, 1) := by decide +kernel
theorem dX1_turn_12 : decode cX1_turn 12 = .ok (.getfield 86, 3) := by decide +kernel
theorem dX1_turn_15 : decode cX1_turn 15 = .ok (.iadd, 1) := by decide +kernel
theorem dX1_turn_16 : decode cX1_turn 16 = .ok (.istore_n 2, 1) := by decide +kernel
theorem dX1_turn_17 : decode cX1_turn 17 = .ok (.iconst 0, 1) := by decide +kernel
theorem dX1_turn_18 : decode cX1_turn 18 = .ok (.istore_n 3, 1) := by decide +kernel
theorem dX1_turn_19 : decode cX1_turn 19 = .ok (.iload_n 3, 1) := by decide +kernel
theorem dX1_turn_20 : decode cX1_turn 20 = .ok (.iload_n 2, 1) := by decide +kernel
theorem dX1_turn_21 : decode cX1_turn 21 = .ok (.if_icmp .ge 116, 3) := by decide +kernel
theorem dX1_turn_24 : decode cX1_turn 24 = .ok (.aload_n 1, 1) := by decide +kernel
theorem dX1_turn_25 : decode cX1_turn 25 = .ok (.getfield 89, 3) := by decide +kernel
theorem dX1_turn_28 : decode cX1_turn 28 = .ok (.iload_n 3, 1) := by decide +kernel
theorem dX1_turn_29 : decode cX1_turn 29 = .ok (.iaload, 1) := by decide +kernel
theorem dX1_turn_30 : decode cX1_turn 30 = .ok (.istore 4, 2) := by decide +kernel
theorem dX1_turn_32 : decode cX1_turn 32 = .ok (.aload_n 1, 1) := by decide +kernel
theorem dX1_turn_33 : decode cX1_turn 33 = .ok (.getfield 92, 3) := by decide +kernel
theorem dX1_turn_36 : decode cX1_turn 36 = .ok (.iload 4, 2) := by decide +kernel
theorem dX1_turn_38 : decode cX1_turn 38 = .ok (.iaload, 1) := by decide +kernel
theorem dX1_turn_39 : decode cX1_turn 39 = .ok (.istore 5, 2) := by decide +kernel
theorem dX1_turn_41 : decode cX1_turn 41 = .ok (.aload_n 0, 1) := by decide +kernel
theorem dX1_turn_42 : decode cX1_turn 42 = .ok (.aload_n 1, 1) := by decide +kernel
theorem dX1_turn_43 : decode cX1_turn 43 = .ok (.aload_n 1, 1) := by decide +kernel
theorem dX1_turn_44 : decode cX1_turn 44 = .ok (.getfield 46, 3) := by decide +kernel
theorem dX1_turn_47 : decode cX1_turn 47 = .ok (.iload 5, 2) := by decide +kernel
theorem dX1_turn_49 : decode cX1_turn 49 = .ok (.invokevirtual 50, 3) := by decide +kernel
theorem dX1_turn_52 : decode cX1_turn 52 = .ok (.ifCond .ne 23, 3) := by decide +kernel
theorem dX1_turn_55 : decode cX1_turn 55 = .ok (.aload_n 0, 1) := by decide +kernel
theorem dX1_turn_56 : decode cX1_turn 56 = .ok (.getfield 33, 3) := by decide +kernel
theorem dX1_turn_59 : decode cX1_turn 59 = .ok (.iload 4, 2) := by decide +kernel
theorem dX1_turn_61 : decode cX1_turn 61 = .ok (.aload_n 0, 1) := by decide +kernel
theorem dX1_turn_62 : decode cX1_turn 62 = .ok (.getfield 23, 3) := by decide +kernel
theorem dX1_turn_65 : decode cX1_turn 65 = .ok (.aload_n 0, 1) := by decide +kernel
theorem dX1_turn_66 : decode cX1_turn 66 = .ok (.getfield 26, 3) := by decide +kernel
theorem dX1_turn_69 : decode cX1_turn 69 = .ok (.invokevirtual 66, 3) := by decide +kernel
theorem dX1_turn_72 : decode cX1_turn 72 = .ok (.goto 59, 3) := by decide +kernel
theorem dX1_turn_75 : decode cX1_turn 75 = .ok (.iload 4, 2) := by decide +kernel
theorem dX1_turn_77 : decode cX1_turn 77 = .ok (.bipush 40, 2) := by decide +kernel
theorem dX1_turn_79 : decode cX1_turn 79 = .ok (.if_icmp .ge 29, 3) := by decide +kernel
theorem dX1_turn_82 : decode cX1_turn 82 = .ok (.aload_n 0, 1) := by decide +kernel
theorem dX1_turn_83 : decode cX1_turn 83 = .ok (.iload 4, 2) := by decide +kernel
theorem dX1_turn_85 : decode cX1_turn 85 = .ok (.aload_n 1, 1) := by decide +kernel
theorem dX1_turn_86 : decode cX1_turn 86 = .ok (.getfield 46, 3) := by decide +kernel
theorem dX1_turn_89 : decode cX1_turn 89 = .ok (.getfield 54, 3) := by decide +kernel
theorem dX1_turn_92 : decode cX1_turn 92 = .ok (.iload 5, 2) := by decide +kernel
theorem dX1_turn_94 : decode cX1_turn 94 = .ok (.iaload, 1) := by decide +kernel
theorem dX1_turn_95 : decode cX1_turn 95 = .ok (.aload_n 1, 1) := by decide +kernel
theorem dX1_turn_96 : decode cX1_turn 96 = .ok (.getfield 59, 3) := by decide +kernel
theorem dX1_turn_99 : decode cX1_turn 99 = .ok (.iload 4, 2) := by decide +kernel
theorem dX1_turn_101 : decode cX1_turn 101 = .ok (.iaload, 1) := by decide +kernel
theorem dX1_turn_102 : decode cX1_turn 102 = .ok (.invokevirtual 62, 3) := by decide +kernel
theorem dX1_turn_105 : decode cX1_turn 105 = .ok (.goto 26, 3) := by decide +kernel
theorem dX1_turn_108 : decode cX1_turn 108 = .ok (.aload_n 0, 1) := by decide +kernel
theorem dX1_turn_109 : decode cX1_turn 109 = .ok (.getfield 9, 3) := by decide +kernel
theorem dX1_turn_112 : decode cX1_turn 112 = .ok (.iconst 0, 1) := by decide +kernel
theorem dX1_turn_113 : decode cX1_turn 113 = .ok (.laload, 1) := by decide +kernel
theorem dX1_turn_114 : decode cX1_turn 114 = .ok (.lconst 0, 1) := by decide +kernel
theorem dX1_turn_115 : decode cX1_turn 115 = .ok (.lcmp, 1) := by decide +kernel
theorem dX1_turn_116 : decode cX1_turn 116 = .ok (.ifCond .eq 15, 3) := by decide +kernel
theorem dX1_turn_119 : decode cX1_turn 119 = .ok (.aload_n 0, 1) := by decide +kernel
theorem dX1_turn_120 : decode cX1_turn 120 = .ok (.getfield 33, 3) := by decide +kernel
theorem dX1_turn_123 : decode cX1_turn 123 = .ok (.iload 4, 2) := by decide +kernel
theorem dX1_turn_125 : decode cX1_turn 125 = .ok (.bipush 40, 2) := by decide +kernel
theorem dX1_turn_127 : decode cX1_turn 127 = .ok (.isub, 1) := by decide +kernel
theorem dX1_turn_128 : decode cX1_turn 128 = .ok (.invokevirtual 95, 3) := by decide +kernel
theorem dX1_turn_131 : decode cX1_turn 131 = .ok (.iinc 3 1, 3) := by decide +kernel
theorem dX1_turn_134 : decode cX1_turn 134 = .ok (.goto (-115), 3) := by decide +kernel
theorem dX1_turn_137 : decode cX1_turn 137 = .ok (.return_, 1) := by decide +kernel
abbrev R_X1_turn : Room := ({ frames := 6, cells := 0, slots := 0, locals := 216 } : Room)
def b_X1_turn_131 (n : Nat) (rec : (Gs → Gs → Gs → Gs → Gs → Int32 → Int32 → Option (Gs × Gs))) (gT : Gs) (gT_0 : Gs) (gT_1 : Gs) (gP0 : Gs) (gP0_0 : Gs) (v2 : Int32) (v3 : Int32) : Option (Gs × Gs) :=
  rec gT gT_0 gT_1 gP0 gP0_0 v2 (v3 + (1 : Int32))
def h_X1_turn_19 (n : Nat) (rec : (Gs → Gs → Gs → Gs → Gs → Int32 → Int32 → Option (Gs × Gs))) (gT : Gs) (gT_0 : Gs) (gT_1 : Gs) (gP0 : Gs) (gP0_0 : Gs) (v2 : Int32) (v3 : Int32) : Option (Gs × Gs) :=
  if v2 ≤ v3 then (some (gT, gT_1)) else (grd (inB v3 52) (grd (inB (gIA gP0 11 v3.toNatClampNeg) 52) (bnd (f_X1_run n gT gT_0 gT_1 gP0 gP0_0 (gIA gP0 10 (gIA gP0 11 v3.toNatClampNeg).toNatClampNeg)) (fun q_5 => if q_5.1 = 0 then (bnd (f_X9_noteJam gT_1 (gIA gP0 11 v3.toNatClampNeg) (gI q_5.2 5) (gI q_5.2 6)) (fun q_14 => b_X1_turn_131 n rec q_5.2 gT_0 q_14 gP0 gP0_0 v2 v3)) else (if (40 : Int32) ≤ (gIA gP0 11 v3.toNatClampNeg) then (grd (inB (0 : Int32) 512) (if (gLA q_5.2 2 (0 : Int32).toNatClampNeg) = (0 : Int64) then (b_X1_turn_131 n rec q_5.2 gT_0 gT_1 gP0 gP0_0 v2 v3) else (bnd (f_X9_noteStrike gT_1 ((gIA gP0 11 v3.toNatClampNeg) - (40 : Int32))) (fun q_8 => b_X1_turn_131 n rec q_5.2 gT_0 q_8 gP0 gP0_0 v2 v3)))) else (grd (inB (gIA gP0 10 (gIA gP0 11 v3.toNatClampNeg).toNatClampNeg) 92) (grd (inB (gIA gP0 11 v3.toNatClampNeg) 40) (bnd (f_X1_store q_5.2 gT_1 (gIA gP0 11 v3.toNatClampNeg) (gIA gP0_0 17 (gIA gP0 10 (gIA gP0 11 v3.toNatClampNeg).toNatClampNeg).toNatClampNeg) (gIA gP0 7 (gIA gP0 11 v3.toNatClampNeg).toNatClampNeg)) (fun q_12 => b_X1_turn_131 n rec q_12.1 gT_0 q_12.2 gP0 gP0_0 v2 v3)))))))))
def L_X1_turn (n : Nat) : Nat → (Gs → Gs → Gs → Gs → Gs → Int32 → Int32 → Option (Gs × Gs))
  | 0 => ((fun _ _ _ _ _ _ _ => none))
  | k + 1 => (h_X1_turn_19 n (L_X1_turn n k))
def f_X1_turn (n : Nat) (gT : Gs) (gT_0 : Gs) (gT_1 : Gs) (gP0 : Gs) (gP0_0 : Gs) : Option (Gs × Gs) :=
  bnd (f_X9_beginTick gT_1) (fun q_1 => (L_X1_turn n n) gT gT_0 q_1 gP0 gP0_0 ((gI gP0 4) + (gI gP0 5)) (0 : Int32))
def S_X1_turn_131 (l : Launch) (D : Dx) (hT : Nat) (aT : Nat → Nat) (yT : Nat → ClassId) (aT_0 : Nat → Nat) (yT_0 : Nat → ClassId) (aT_1 : Nat → Nat) (yT_1 : Nat → ClassId) (hP0 : Nat) (aP0 : Nat → Nat) (yP0 : Nat → ClassId) (aP0_0 : Nat → Nat) (yP0_0 : Nat → ClassId) (fn : Gs → Gs → Gs → Gs → Gs → Int32 → Int32 → Option (Gs × Gs)) : Prop :=
  ∀ {p : Program} {e : Env} {s : State} {m : MethodId} {args : Array Value} {below : List Frame} {meth : Method} {c : Code} {H : Heap} {locs : List Loc} {A : Nat → Prop} {ls : Array Slot} {gT : Gs} {gT_0 : Gs} {gT_1 : Gs} {gP0 : Gs} {gP0_0 : Gs} {v2 : Int32} {v3 : Int32} {q : Gs × Gs}, Cx p s m args meth c cX1_turn none 6 RX1 lw_all → Hx D (tX1 yT ++ (tX6 yT_0 ++ (tX9 yT_1 ++ (tX4 yP0 ++ (tX0 yP0_0))))) A s H locs (wX1 hT aT yT gT ++ (wX6 (aT 0) aT_0 yT_0 gT_0 ++ (wX9 (aT 1) aT_1 yT_1 gT_1 ++ (wX4 hP0 aP0 yP0 gP0 ++ (wX0 (aP0 0) aP0_0 yP0_0 gP0_0))))) → lv_has ls 6 [(0, .ref hT), (1, .ref hP0), (2, .int v2), (3, .int v3)] → fn gT gT_0 gT_1 gP0 gP0_0 v2 v3 = some q → W p l e R_X1_turn s m args below meth c H locs 0 0 (MQ below (QV D A (wX1 hT aT yT q.1 ++ (wX6 (aT 0) aT_0 yT_0 gT_0 ++ (wX9 (aT 1) aT_1 yT_1 q.2 ++ (wX4 hP0 aP0 yP0 gP0 ++ (wX0 (aP0 0) aP0_0 yP0_0 gP0_0)))))) args s 0 0 A) (F0 m 131 ls [])
def S_X1_turn_19 (l : Launch) (D : Dx) (hT : Nat) (aT : Nat → Nat) (yT : Nat → ClassId) (aT_0 : Nat → Nat) (yT_0 : Nat → ClassId) (aT_1 : Nat → Nat) (yT_1 : Nat → ClassId) (hP0 : Nat) (aP0 : Nat → Nat) (yP0 : Nat → ClassId) (aP0_0 : Nat → Nat) (yP0_0 : Nat → ClassId) (fn : Gs → Gs → Gs → Gs → Gs → Int32 → Int32 → Option (Gs × Gs)) : Prop :=
  ∀ {p : Program} {e : Env} {s : State} {m : MethodId} {args : Array Value} {below : List Frame} {meth : Method} {c : Code} {H : Heap} {locs : List Loc} {A : Nat → Prop} {ls : Array Slot} {gT : Gs} {gT_0 : Gs} {gT_1 : Gs} {gP0 : Gs} {gP0_0 : Gs} {v2 : Int32} {v3 : Int32} {q : Gs × Gs}, Cx p s m args meth c cX1_turn none 6 RX1 lw_all → Hx D (tX1 yT ++ (tX6 yT_0 ++ (tX9 yT_1 ++ (tX4 yP0 ++ (tX0 yP0_0))))) A s H locs (wX1 hT aT yT gT ++ (wX6 (aT 0) aT_0 yT_0 gT_0 ++ (wX9 (aT 1) aT_1 yT_1 gT_1 ++ (wX4 hP0 aP0 yP0 gP0 ++ (wX0 (aP0 0) aP0_0 yP0_0 gP0_0))))) → lv_has ls 6 [(0, .ref hT), (1, .ref hP0), (2, .int v2), (3, .int v3)] → fn gT gT_0 gT_1 gP0 gP0_0 v2 v3 = some q → W p l e R_X1_turn s m args below meth c H locs 0 0 (MQ below (QV D A (wX1 hT aT yT q.1 ++ (wX6 (aT 0) aT_0 yT_0 gT_0 ++ (wX9 (aT 1) aT_1 yT_1 q.2 ++ (wX4 hP0 aP0 yP0 gP0 ++ (wX0 (aP0 0) aP0_0 yP0_0 gP0_0)))))) args s 0 0 A) (F0 m 19 ls [])
def SH_X1_turn (l : Launch) (D : Dx) (hT : Nat) (aT : Nat → Nat) (yT : Nat → ClassId) (aT_0 : Nat → Nat) (yT_0 : Nat → ClassId) (aT_1 : Nat → Nat) (yT_1 : Nat → ClassId) (hP0 : Nat) (aP0 : Nat → Nat) (yP0 : Nat → ClassId) (aP0_0 : Nat → Nat) (yP0_0 : Nat → ClassId) (rec : (Gs → Gs → Gs → Gs → Gs → Int32 → Int32 → Option (Gs × Gs))) : Prop := S_X1_turn_19 l D hT aT yT aT_0 yT_0 aT_1 yT_1 hP0 aP0 yP0 aP0_0 yP0_0 rec
set_option maxHeartbeats 4000000 in
set_option maxRecDepth 100000 in
theorem k_X1_turn_131 (l : Launch) (D : Dx) (hT : Nat) (aT : Nat → Nat) (yT : Nat → ClassId) (aT_0 : Nat → Nat) (yT_0 : Nat → ClassId) (aT_1 : Nat → Nat) (yT_1 : Nat → ClassId) (hP0 : Nat) (aP0 : Nat → Nat) (yP0 : Nat → ClassId) (aP0_0 : Nat → Nat) (yP0_0 : Nat → ClassId) (n : Nat) (rec : (Gs → Gs → Gs → Gs → Gs → Int32 → Int32 → Option (Gs × Gs))) (IH : SH_X1_turn l D hT aT yT aT_0 yT_0 aT_1 yT_1 hP0 aP0 yP0 aP0_0 yP0_0 rec) : S_X1_turn_131 l D hT aT yT aT_0 yT_0 aT_1 yT_1 hP0 aP0 yP0 aP0_0 yP0_0 (b_X1_turn_131 n rec) := by
  intro p e s m args below meth c H locs A ls gT gT_0 gT_1 gP0 gP0_0 v2 v3 q C X hl hF
  obtain ⟨hx, hb, hr, hml, hown, hts, hlk⟩ := id C
  unfold b_X1_turn_131 at hF
  refine lv_iinc (v := v3 + (1 : Int32)) (lv' := [(3, .int (v3 + (1 : Int32))), (0, .ref hT), (1, .ref hP0), (2, .int v2)]) hx hb dX1_turn_131 hl (k := 3) rfl rfl (by decide) rfl (fun ls hl => ?_)
  refine lv_goto (tgt := 19) hx hb dX1_turn_134 (by decide) ?_
  exact IH C X (lv_sub hl [1, 2, 3, 0] rfl) hF
set_option maxHeartbeats 4000000 in
set_option maxRecDepth 100000 in
theorem k_X1_turn_19 (l : Launch) (D : Dx) (hT : Nat) (aT : Nat → Nat) (yT : Nat → ClassId) (aT_0 : Nat → Nat) (yT_0 : Nat → ClassId) (aT_1 : Nat → Nat) (yT_1 : Nat → ClassId) (hP0 : Nat) (aP0 : Nat → Nat) (yP0 : Nat → ClassId) (aP0_0 : Nat → Nat) (yP0_0 : Nat → ClassId) (n : Nat) (rec : (Gs → Gs → Gs → Gs → Gs → Int32 → Int32 → Option (Gs × Gs))) (IH : SH_X1_turn l D hT aT yT aT_0 yT_0 aT_1 yT_1 hP0 aP0 yP0 aP0_0 yP0_0 rec) : S_X1_turn_19 l D hT aT yT aT_0 yT_0 aT_1 yT_1 hP0 aP0 yP0 aP0_0 yP0_0 (h_X1_turn_19 n rec) := by
  intro p e s m args below meth c H locs A ls gT gT_0 gT_1 gP0 gP0_0 v2 v3 q C X hl hF
  obtain ⟨hx, hb, hr, hml, hown, hts, hlk⟩ := id C
  unfold h_X1_turn_19 at hF
  refine lv_iload_n hx hb dX1_turn_19 rfl (lv_at hl 3 rfl) ?_
  refine lv_iload_n hx hb dX1_turn_20 rfl (lv_at hl 2 rfl) ?_
  refine lv_icmp_ge (tgt := 137) hx hb dX1_turn_21 (by decide) (fun c => ?_) (fun c => ?_)
  · replace hF := iT c hF
    have hq := Option.some.inj hF
    subst hq
    exact rt_v C X dX1_turn_137
  · replace hF := iF c hF
    refine lv_aload_n hx hb dX1_turn_24 rfl (lv_at hl 1 rfl) ?_
    refine va_getN (D := D.1) (ci := 4) (v := .ref (aP0 11)) (C := RX4) (T := TX4) (N := 14) hx hb hts wi_X4 hown X.1 X.2.1 18 rfl rfl 11 (by decide) (X.2.2.2.2.2.1.use q2_109 rfl) (fun _ h9 => h9) (fl_get (by decide)) dX1_turn_25 ?_
    refine lv_iload_n hx hb dX1_turn_28 rfl (lv_at hl 3 rfl) ?_
    obtain ⟨h_3, hF⟩ := grd_some hF
    refine va_iald (D := D.1) (f := gIA gP0 11) hx hb X.1 X.2.1 26 22 rfl rfl (inB_ok h_3) dX1_turn_29 ?_
    refine lv_istore (lv' := [(4, .int (gIA gP0 11 v3.toNatClampNeg)), (0, .ref hT), (1, .ref hP0), (2, .int v2), (3, .int v3)]) hx hb dX1_turn_30 hl (by decide) rfl (fun ls hl => ?_)
    refine lv_aload_n hx hb dX1_turn_32 rfl (lv_at hl 2 rfl) ?_
    refine va_getN (D := D.1) (ci := 4) (v := .ref (aP0 10)) (C := RX4) (T := TX4) (N := 14) hx hb hts wi_X4 hown X.1 X.2.1 18 rfl rfl 10 (by decide) (X.2.2.2.2.2.1.use q2_106 rfl) (fun _ h9 => h9) (fl_get (by decide)) dX1_turn_33 ?_
    refine lv_iload hx hb dX1_turn_36 (lv_at hl 0 rfl) ?_
    obtain ⟨h_4, hF⟩ := grd_some hF
    refine va_iald (D := D.1) (f := gIA gP0 10) hx hb X.1 X.2.1 25 21 rfl rfl (inB_ok h_4) dX1_turn_38 ?_
    refine lv_istore (lv' := [(5, .int (gIA gP0 10 (gIA gP0 11 v3.toNatClampNeg).toNatClampNeg)), (4, .int (gIA gP0 11 v3.toNatClampNeg)), (0, .ref hT), (1, .ref hP0), (2, .int v2), (3, .int v3)]) hx hb dX1_turn_39 hl (by decide) rfl (fun ls hl => ?_)
    refine lv_aload_n hx hb dX1_turn_41 rfl (lv_at hl 2 rfl) ?_
    refine lv_aload_n hx hb dX1_turn_42 rfl (lv_at hl 3 rfl) ?_
    refine lv_aload_n hx hb dX1_turn_43 rfl (lv_at hl 3 rfl) ?_
    refine va_getN (D := D.1) (ci := 4) (v := .ref (aP0 0)) (C := RX4) (T := TX4) (N := 14) hx hb hts wi_X4 hown X.1 X.2.1 18 rfl rfl 0 (by decide) (X.2.2.2.2.2.1.use q2_69 rfl) (fun _ h9 => h9) (fl_get (by decide)) dX1_turn_44 ?_
    refine lv_iload hx hb dX1_turn_47 (lv_at hl 0 rfl) ?_
    obtain ⟨q_5, hc_6, hF⟩ := bnd_some hF
    refine cV_i (As := [.ref hP0, .ref (aP0 0), .int (gIA gP0 10 (gIA gP0 11 v3.toNatClampNeg).toNatClampNeg)]) (rest := []) C X (c_X1_run l D hT aT yT aT_0 yT_0 aT_1 yT_1 hP0 aP0 yP0 (aP0 0) aP0_0 yP0_0 n gT gT_0 gT_1 gP0 gP0_0 (gIA gP0 10 (gIA gP0 11 v3.toNatClampNeg).toNatClampNeg) q_5 hc_6 _) (cwV 3 hts (good_V q5_32 q5_33 q5_34 q1_4 q5_35) rfl rfl rfl (by decide +kernel) ⟨Nat.le_of_ble_eq_true rfl, Nat.le_of_ble_eq_true rfl⟩) (va_recv X.1 X.2.1 (ci := 1) (q0 := 0) rfl rfl) X.1 X.2.1 X.2.2.1 (free_all X) hl.1 rfl rfl (Nat.le_of_ble_eq_true rfl) dX1_turn_49 ⟨Nat.le_of_ble_eq_true rfl, Nat.le_of_ble_eq_true rfl⟩ (fun t H1 locs1 ht hB hk hS => ?_)
    have X : Hx D (tX1 yT ++ (tX6 yT_0 ++ (tX9 yT_1 ++ (tX4 yP0 ++ (tX0 yP0_0))))) A s H1 locs1 (wX1 hT aT yT q_5.2 ++ (wX6 (aT 0) aT_0 yT_0 gT_0 ++ (wX9 (aT 1) aT_1 yT_1 gT_1 ++ (wX4 hP0 aP0 yP0 gP0 ++ (wX0 (aP0 0) aP0_0 yP0_0 gP0_0))))) := Hx_after_all X ht hB hS
    clear hk hS ht hB
    generalize H1 = H at X ⊢
    generalize locs1 = locs at X ⊢
    refine lv_if_ne (tgt := 75) hx hb dX1_turn_52 (by decide) (fun c => ?_) (fun c => ?_)
    · replace hF := iF c hF
      refine lv_iload hx hb dX1_turn_75 (lv_at hl 1 rfl) ?_
      refine lv_bipush (v := (40 : Int32)) hx hb dX1_turn_77 (by decide) ?_
      refine lv_icmp_ge (tgt := 108) hx hb dX1_turn_79 (by decide) (fun c => ?_) (fun c => ?_)
      · replace hF := iT c hF
        refine lv_aload_n hx hb dX1_turn_108 rfl (lv_at hl 2 rfl) ?_
        refine va_get (D := D.1) (ci := 1) (v := .ref (aT 2)) (C := RX1) (T := TX1) (N := 7) hx hb hts wi_X1 hown X.1 X.2.1 0 rfl rfl 2 (by decide) (hts _ q1_139) (fun _ h9 => h9) (fl_get (by decide)) dX1_turn_109 ?_
        refine lv_iconst (v := (0 : Int32)) hx hb dX1_turn_112 (by decide) ?_
        obtain ⟨h_7, hF⟩ := grd_some hF
        refine va_lald (D := D.1) (f := gLA q_5.2 2) hx hb X.1 X.2.1 1 0 rfl rfl (inB_ok h_7) dX1_turn_113 ?_
        refine lv_lconst (v := (0 : Int64)) hx hb dX1_turn_114 (by decide) ?_
        refine W.lcmp hx hb dX1_turn_115 ?_
        refine lv_if_eq (tgt := 131) hx hb dX1_turn_116 (by decide) (fun c => ?_) (fun c => ?_)
        · have c := (lg_cmp_eq _ _).mp c
          replace hF := iT c hF
          exact (k_X1_turn_131 l D hT aT yT aT_0 yT_0 aT_1 yT_1 hP0 aP0 yP0 aP0_0 yP0_0 n rec IH) C X (lv_sub hl [2, 3, 4, 5] rfl) hF
        · have c := fun h => c ((lg_cmp_eq _ _).mpr h)
          replace hF := iF c hF
          refine lv_aload_n hx hb dX1_turn_119 rfl (lv_at hl 2 rfl) ?_
          refine va_get (D := D.1) (ci := 1) (v := .ref (aT 1)) (C := RX1) (T := TX1) (N := 7) hx hb hts wi_X1 hown X.1 X.2.1 0 rfl rfl 1 (by decide) (hts _ q1_138) (fun _ h9 => h9) (fl_get (by decide)) dX1_turn_120 ?_
          refine lv_iload hx hb dX1_turn_123 (lv_at hl 1 rfl) ?_
          refine lv_bipush (v := (40 : Int32)) hx hb dX1_turn_125 (by decide) ?_
          refine lv_isub hx hb dX1_turn_127 ?_
          obtain ⟨q_8, hc_9, hF⟩ := bnd_some hF
          refine cV_v (As := [.int ((gIA gP0 11 v3.toNatClampNeg) - (40 : Int32))]) (rest := []) C X (c_X9_noteStrike l D (aT 1) aT_1 yT_1 gT_1 ((gIA gP0 11 v3.toNatClampNeg) - (40 : Int32)) q_8 hc_9 _) (cwV 1 hts (good_V q6_2 q6_3 q6_4 q1_3 q6_5) rfl rfl rfl (by decide +kernel) ⟨Nat.le_of_ble_eq_true rfl, Nat.le_of_ble_eq_true rfl⟩) (va_recv X.1 X.2.1 (ci := 9) (q0 := 5) rfl rfl) (X.1.sub (tys' := tX9 yT_1) [3, 4, 5, 6, 7, 8, 9, 10, 11, 12, 13, 14] rfl) (X.2.1.sub (ws' := wX9 (aT 1) aT_1 yT_1 gT_1) [5, 6, 7, 8, 9, 10, 11, 12, 13, 14, 15, 16, 17] rfl) (X.2.2.1.sub (ws' := wX9 (aT 1) aT_1 yT_1 gT_1) [5, 6, 7, 8, 9, 10, 11, 12, 13, 14, 15, 16, 17] (by decide) rfl) (free_of (wC := wX9 (aT 1) aT_1 yT_1 gT_1) (isC := [5, 6, 7, 8, 9, 10, 11, 12, 13, 14, 15, 16, 17]) X rfl) hl.1 rfl rfl (Nat.le_of_ble_eq_true rfl) dX1_turn_128 ⟨Nat.le_of_ble_eq_true rfl, Nat.le_of_ble_eq_true rfl⟩ (fun t H1 locs1 ht hB hk hS => ?_)
          have X : Hx D (tX1 yT ++ (tX6 yT_0 ++ (tX9 yT_1 ++ (tX4 yP0 ++ (tX0 yP0_0))))) A s H1 locs1 (wX1 hT aT yT q_5.2 ++ (wX6 (aT 0) aT_0 yT_0 gT_0 ++ (wX9 (aT 1) aT_1 yT_1 q_8 ++ (wX4 hP0 aP0 yP0 gP0 ++ (wX0 (aP0 0) aP0_0 yP0_0 gP0_0))))) := Hx_after (isC := [5, 6, 7, 8, 9, 10, 11, 12, 13, 14, 15, 16, 17]) (isR := [0, 1, 2, 3, 4, 18, 19, 20, 21, 22, 23, 24, 25, 26, 27, 28, 29, 30, 31, 32, 33, 34, 35, 36, 37, 38, 39, 40, 41, 42, 43, 44]) (pm := [0, 1, 2, 3, 4, 32, 33, 34, 35, 36, 37, 38, 39, 40, 41, 42, 43, 44, 5, 6, 7, 8, 9, 10, 11, 12, 13, 14, 15, 16, 17, 18, 19, 20, 21, 22, 23, 24, 25, 26, 27, 28, 29, 30, 31]) (wr := wX1 hT aT yT q_5.2 ++ (wX6 (aT 0) aT_0 yT_0 gT_0 ++ (wX4 hP0 aP0 yP0 gP0 ++ (wX0 (aP0 0) aP0_0 yP0_0 gP0_0)))) X ⟨rfl, rfl, by decide, by decide, rfl, by decide⟩ ht hB hk hS
          clear hk hS ht hB
          generalize H1 = H at X ⊢
          generalize locs1 = locs at X ⊢
          exact (k_X1_turn_131 l D hT aT yT aT_0 yT_0 aT_1 yT_1 hP0 aP0 yP0 aP0_0 yP0_0 n rec IH) C X (lv_sub hl [2, 3, 4, 5] rfl) hF
      · replace hF := iF c hF
        refine lv_aload_n hx hb dX1_turn_82 rfl (lv_at hl 2 rfl) ?_
        refine lv_iload hx hb dX1_turn_83 (lv_at hl 1 rfl) ?_
        refine lv_aload_n hx hb dX1_turn_85 rfl (lv_at hl 3 rfl) ?_
        refine va_getN (D := D.1) (ci := 4) (v := .ref (aP0 0)) (C := RX4) (T := TX4) (N := 14) hx hb hts wi_X4 hown X.1 X.2.1 18 rfl rfl 0 (by decide) (X.2.2.2.2.2.1.use q2_69 rfl) (fun _ h9 => h9) (fl_get (by decide)) dX1_turn_86 ?_
        refine va_getN (D := D.1) (ci := 0) (v := .ref (aP0_0 17)) (C := RX0) (T := TX0) (N := 19) hx hb hts wi_X0 hown X.1 X.2.1 29 rfl rfl 17 (by decide) (X.2.2.2.2.2.1.use q2_21 rfl) (fun _ h9 => h9) (fl_get (by decide)) dX1_turn_89 ?_
        refine lv_iload hx hb dX1_turn_92 (lv_at hl 0 rfl) ?_
        obtain ⟨h_10, hF⟩ := grd_some hF
        refine va_iald (D := D.1) (f := gIA gP0_0 17) hx hb X.1 X.2.1 44 39 rfl rfl (inB_ok h_10) dX1_turn_94 ?_
        refine lv_aload_n hx hb dX1_turn_95 rfl (lv_at hl 3 rfl) ?_
        refine va_getN (D := D.1) (ci := 4) (v := .ref (aP0 7)) (C := RX4) (T := TX4) (N := 14) hx hb hts wi_X4 hown X.1 X.2.1 18 rfl rfl 7 (by decide) (X.2.2.2.2.2.1.use q2_95 rfl) (fun _ h9 => h9) (fl_get (by decide)) dX1_turn_96 ?_
        refine lv_iload hx hb dX1_turn_99 (lv_at hl 1 rfl) ?_
        obtain ⟨h_11, hF⟩ := grd_some hF
        refine va_iald (D := D.1) (f := gIA gP0 7) hx hb X.1 X.2.1 22 18 rfl rfl (inB_ok h_11) dX1_turn_101 ?_
        obtain ⟨q_12, hc_13, hF⟩ := bnd_some hF
        refine cV_v (As := [.int (gIA gP0 11 v3.toNatClampNeg), .int (gIA gP0_0 17 (gIA gP0 10 (gIA gP0 11 v3.toNatClampNeg).toNatClampNeg).toNatClampNeg), .int (gIA gP0 7 (gIA gP0 11 v3.toNatClampNeg).toNatClampNeg)]) (rest := []) C X (c_X1_store l D hT aT yT aT_1 yT_1 q_5.2 gT_1 (gIA gP0 11 v3.toNatClampNeg) (gIA gP0_0 17 (gIA gP0 10 (gIA gP0 11 v3.toNatClampNeg).toNatClampNeg).toNatClampNeg) (gIA gP0 7 (gIA gP0 11 v3.toNatClampNeg).toNatClampNeg) q_12 hc_13 _) (cwV 3 hts (good_V q5_140 q5_142 q0_57 q1_4 q5_143) rfl rfl rfl (by decide +kernel) ⟨Nat.le_of_ble_eq_true rfl, Nat.le_of_ble_eq_true rfl⟩) (va_recv X.1 X.2.1 (ci := 1) (q0 := 0) rfl rfl) (X.1.sub (tys' := tX1 yT ++ (tX9 yT_1)) [0, 1, 3, 4, 5, 6, 7, 8, 9, 10, 11, 12, 13, 14] rfl) (X.2.1.sub (ws' := wX1 hT aT yT q_5.2 ++ (wX9 (aT 1) aT_1 yT_1 gT_1)) [0, 1, 2, 5, 6, 7, 8, 9, 10, 11, 12, 13, 14, 15, 16, 17] rfl) (X.2.2.1.sub (ws' := wX1 hT aT yT q_5.2 ++ (wX9 (aT 1) aT_1 yT_1 gT_1)) [0, 1, 2, 5, 6, 7, 8, 9, 10, 11, 12, 13, 14, 15, 16, 17] (by decide) rfl) (free_of (wC := wX1 hT aT yT q_5.2 ++ (wX9 (aT 1) aT_1 yT_1 gT_1)) (isC := [0, 1, 2, 5, 6, 7, 8, 9, 10, 11, 12, 13, 14, 15, 16, 17]) X rfl) hl.1 rfl rfl (Nat.le_of_ble_eq_true rfl) dX1_turn_102 ⟨Nat.le_of_ble_eq_true rfl, Nat.le_of_ble_eq_true rfl⟩ (fun t H1 locs1 ht hB hk hS => ?_)
        have X : Hx D (tX1 yT ++ (tX6 yT_0 ++ (tX9 yT_1 ++ (tX4 yP0 ++ (tX0 yP0_0))))) A s H1 locs1 (wX1 hT aT yT q_12.1 ++ (wX6 (aT 0) aT_0 yT_0 gT_0 ++ (wX9 (aT 1) aT_1 yT_1 q_12.2 ++ (wX4 hP0 aP0 yP0 gP0 ++ (wX0 (aP0 0) aP0_0 yP0_0 gP0_0))))) := Hx_after (isC := [0, 1, 2, 5, 6, 7, 8, 9, 10, 11, 12, 13, 14, 15, 16, 17]) (isR := [3, 4, 18, 19, 20, 21, 22, 23, 24, 25, 26, 27, 28, 29, 30, 31, 32, 33, 34, 35, 36, 37, 38, 39, 40, 41, 42, 43, 44]) (pm := [29, 30, 31, 0, 1, 32, 33, 34, 35, 36, 37, 38, 39, 40, 41, 42, 43, 44, 2, 3, 4, 5, 6, 7, 8, 9, 10, 11, 12, 13, 14, 15, 16, 17, 18, 19, 20, 21, 22, 23, 24, 25, 26, 27, 28]) (wr := wX6 (aT 0) aT_0 yT_0 gT_0 ++ (wX4 hP0 aP0 yP0 gP0 ++ (wX0 (aP0 0) aP0_0 yP0_0 gP0_0))) X ⟨rfl, rfl, by decide, by decide, rfl, by decide⟩ ht hB hk hS
        clear hk hS ht hB
        generalize H1 = H at X ⊢
        generalize locs1 = locs at X ⊢
        refine lv_goto (tgt := 131) hx hb dX1_turn_105 (by decide) ?_
        exact (k_X1_turn_131 l D hT aT yT aT_0 yT_0 aT_1 yT_1 hP0 aP0 yP0 aP0_0 yP0_0 n rec IH) C X (lv_sub hl [2, 3, 4, 5] rfl) hF
    · replace hF := iT c hF
      refine lv_aload_n hx hb dX1_turn_55 rfl (lv_at hl 2 rfl) ?_
      refine va_get (D := D.1) (ci := 1) (v := .ref (aT 1)) (C := RX1) (T := TX1) (N := 7) hx hb hts wi_X1 hown X.1 X.2.1 0 rfl rfl 1 (by decide) (hts _ q1_138) (fun _ h9 => h9) (fl_get (by decide)) dX1_turn_56 ?_
      refine lv_iload hx hb dX1_turn_59 (lv_at hl 1 rfl) ?_
      refine lv_aload_n hx hb dX1_turn_61 rfl (lv_at hl 2 rfl) ?_
      refine va_get (D := D.1) (ci := 1) (v := .int (gI q_5.2 5)) (C := RX1) (T := TX1) (N := 7) hx hb hts wi_X1 hown X.1 X.2.1 0 rfl rfl 5 (by decide) (hts _ q1_144) (fun _ h9 => h9) (fl_get (by decide)) dX1_turn_62 ?_
      refine lv_aload_n hx hb dX1_turn_65 rfl (lv_at hl 2 rfl) ?_
      refine va_get (D := D.1) (ci := 1) (v := .int (gI q_5.2 6)) (C := RX1) (T := TX1) (N := 7) hx hb hts wi_X1 hown X.1 X.2.1 0 rfl rfl 6 (by decide) (hts _ q1_146) (fun _ h9 => h9) (fl_get (by decide)) dX1_turn_66 ?_
      obtain ⟨q_14, hc_15, hF⟩ := bnd_some hF
      refine cV_v (As := [.int (gIA gP0 11 v3.toNatClampNeg), .int (gI q_5.2 5), .int (gI q_5.2 6)]) (rest := []) C X (c_X9_noteJam l D (aT 1) aT_1 yT_1 gT_1 (gIA gP0 11 v3.toNatClampNeg) (gI q_5.2 5) (gI q_5.2 6) q_14 hc_15 _) (cwV 3 hts (good_V q5_144 q5_145 q5_146 q1_3 q5_147) rfl rfl rfl (by decide +kernel) ⟨Nat.le_of_ble_eq_true rfl, Nat.le_of_ble_eq_true rfl⟩) (va_recv X.1 X.2.1 (ci := 9) (q0 := 5) rfl rfl) (X.1.sub (tys' := tX9 yT_1) [3, 4, 5, 6, 7, 8, 9, 10, 11, 12, 13, 14] rfl) (X.2.1.sub (ws' := wX9 (aT 1) aT_1 yT_1 gT_1) [5, 6, 7, 8, 9, 10, 11, 12, 13, 14, 15, 16, 17] rfl) (X.2.2.1.sub (ws' := wX9 (aT 1) aT_1 yT_1 gT_1) [5, 6, 7, 8, 9, 10, 11, 12, 13, 14, 15, 16, 17] (by decide) rfl) (free_of (wC := wX9 (aT 1) aT_1 yT_1 gT_1) (isC := [5, 6, 7, 8, 9, 10, 11, 12, 13, 14, 15, 16, 17]) X rfl) hl.1 rfl rfl (Nat.le_of_ble_eq_true rfl) dX1_turn_69 ⟨Nat.le_of_ble_eq_true rfl, Nat.le_of_ble_eq_true rfl⟩ (fun t H1 locs1 ht hB hk hS => ?_)
      have X : Hx D (tX1 yT ++ (tX6 yT_0 ++ (tX9 yT_1 ++ (tX4 yP0 ++ (tX0 yP0_0))))) A s H1 locs1 (wX1 hT aT yT q_5.2 ++ (wX6 (aT 0) aT_0 yT_0 gT_0 ++ (wX9 (aT 1) aT_1 yT_1 q_14 ++ (wX4 hP0 aP0 yP0 gP0 ++ (wX0 (aP0 0) aP0_0 yP0_0 gP0_0))))) := Hx_after (isC := [5, 6, 7, 8, 9, 10, 11, 12, 13, 14, 15, 16, 17]) (isR := [0, 1, 2, 3, 4, 18, 19, 20, 21, 22, 23, 24, 25, 26, 27, 28, 29, 30, 31, 32, 33, 34, 35, 36, 37, 38, 39, 40, 41, 42, 43, 44]) (pm := [0, 1, 2, 3, 4, 32, 33, 34, 35, 36, 37, 38, 39, 40, 41, 42, 43, 44, 5, 6, 7, 8, 9, 10, 11, 12, 13, 14, 15, 16, 17, 18, 19, 20, 21, 22, 23, 24, 25, 26, 27, 28, 29, 30, 31]) (wr := wX1 hT aT yT q_5.2 ++ (wX6 (aT 0) aT_0 yT_0 gT_0 ++ (wX4 hP0 aP0 yP0 gP0 ++ (wX0 (aP0 0) aP0_0 yP0_0 gP0_0)))) X ⟨rfl, rfl, by decide, by decide, rfl, by decide⟩ ht hB hk hS
      clear hk hS ht hB
      generalize H1 = H at X ⊢
      generalize locs1 = locs at X ⊢
      refine lv_goto (tgt := 131) hx hb dX1_turn_72 (by decide) ?_
      exact (k_X1_turn_131 l D hT aT yT aT_0 yT_0 aT_1 yT_1 hP0 aP0 yP0 aP0_0 yP0_0 n rec IH) C X (lv_sub hl [2, 3, 4, 5] rfl) hF
theorem kL_X1_turn (l : Launch) (D : Dx) (hT : Nat) (aT : Nat → Nat) (yT : Nat → ClassId) (aT_0 : Nat → Nat) (yT_0 : Nat → ClassId) (aT_1 : Nat → Nat) (yT_1 : Nat → ClassId) (hP0 : Nat) (aP0 : Nat → Nat) (yP0 : Nat → ClassId) (aP0_0 : Nat → Nat) (yP0_0 : Nat → ClassId) (n : Nat) : ∀ k, SH_X1_turn l D hT aT yT aT_0 yT_0 aT_1 yT_1 hP0 aP0 yP0 aP0_0 yP0_0 (L_X1_turn n k)
  | 0 => fun _ _ _ h => by cases h
  | k + 1 => k_X1_turn_19 l D hT aT yT aT_0 yT_0 aT_1 yT_1 hP0 aP0 yP0 aP0_0 yP0_0 n _ (kL_X1_turn l D hT aT yT aT_0 yT_0 aT_1 yT_1 hP0 aP0 yP0 aP0_0 yP0_0 n k)
set_option maxHeartbeats 4000000 in
set_option maxRecDepth 100000 in
theorem c_X1_turn (l : Launch) (D : Dx) (hT : Nat) (aT : Nat → Nat) (yT : Nat → ClassId) (aT_0 : Nat → Nat) (yT_0 : Nat → ClassId) (aT_1 : Nat → Nat) (yT_1 : Nat → ClassId) (hP0 : Nat) (aP0 : Nat → Nat) (yP0 : Nat → ClassId) (aP0_0 : Nat → Nat) (yP0_0 : Nat → ClassId) (n : Nat) (gT : Gs) (gT_0 : Gs) (gT_1 : Gs) (gP0 : Gs) (gP0_0 : Gs) (q : Gs × Gs) (hF : f_X1_turn n gT gT_0 gT_1 gP0 gP0_0 = some q) (sz : Nat) : Met l yX1_turn (ws_ yX1_turn cX1_turn 6 none) R_X1_turn (PC D (tX1 yT ++ (tX6 yT_0 ++ (tX9 yT_1 ++ (tX4 yP0 ++ (tX0 yP0_0))))) [.ref hT, .ref hP0] (wX1 hT aT yT gT ++ (wX6 (aT 0) aT_0 yT_0 gT_0 ++ (wX9 (aT 1) aT_1 yT_1 gT_1 ++ (wX4 hP0 aP0 yP0 gP0 ++ (wX0 (aP0 0) aP0_0 yP0_0 gP0_0))))) sz) (QV D (va_A (wX1 hT aT yT gT ++ (wX6 (aT 0) aT_0 yT_0 gT_0 ++ (wX9 (aT 1) aT_1 yT_1 gT_1 ++ (wX4 hP0 aP0 yP0 gP0 ++ (wX0 (aP0 0) aP0_0 yP0_0 gP0_0))))) sz) (wX1 hT aT yT q.1 ++ (wX6 (aT 0) aT_0 yT_0 gT_0 ++ (wX9 (aT 1) aT_1 yT_1 q.2 ++ (wX4 hP0 aP0 yP0 gP0 ++ (wX0 (aP0 0) aP0_0 yP0_0 gP0_0)))))) 0 0 (va_A (wX1 hT aT yT gT ++ (wX6 (aT 0) aT_0 yT_0 gT_0 ++ (wX9 (aT 1) aT_1 yT_1 gT_1 ++ (wX4 hP0 aP0 yP0 gP0 ++ (wX0 (aP0 0) aP0_0 yP0_0 gP0_0))))) sz) := by
  refine Met.ofW (cc := cX1_turn) (maxL := 6) (ret := none) (by decide) rfl ?_
  intro p e s m args below meth c s₁ B hml hv
  obtain ⟨rfl, hsz, hP, hK, hD, hN⟩ := hv
  subst hsz
  have C : Cx p s m _ meth c cX1_turn none 6 RX1 lw_all := Cx_of B hml
  have X := Hx_start hP hK hD hN
  obtain ⟨hx, hb, hr, -, hown, hts, hlk⟩ := id C
  generalize va_A (wX1 hT aT yT gT ++ (wX6 (aT 0) aT_0 yT_0 gT_0 ++ (wX9 (aT 1) aT_1 yT_1 gT_1 ++ (wX4 hP0 aP0 yP0 gP0 ++ (wX0 (aP0 0) aP0_0 yP0_0 gP0_0))))) s.heap.size = A at X ⊢
  have hl := lv_entry ([.ref hT, .ref hP0]) (n := 6) (Nat.le_of_ble_eq_true rfl)
  rw [lg_entry_eq]
  generalize (lg_sl ([.ref hT, .ref hP0]) ++ List.replicate (6 - (lg_sl ([.ref hT, .ref hP0])).length) Slot.unset).toArray = ls at hl ⊢
  have hl : lv_has ls 6 [(0, .ref hT), (1, .ref hP0)] := hl
  unfold f_X1_turn at hF
  refine lv_aload_n hx hb dX1_turn_0 rfl (lv_at hl 0 rfl) ?_
  refine va_get (D := D.1) (ci := 1) (v := .ref (aT 1)) (C := RX1) (T := TX1) (N := 7) hx hb hts wi_X1 hown X.1 X.2.1 0 rfl rfl 1 (by decide) (hts _ q1_138) (fun _ h9 => h9) (fl_get (by decide)) dX1_turn_1 ?_
  obtain ⟨q_1, hc_2, hF⟩ := bnd_some hF
  refine cV_v (As := []) (rest := []) C X (c_X9_beginTick l D (aT 1) aT_1 yT_1 gT_1 q_1 hc_2 _) (cwV 0 hts (good_V q5_236 q5_237 q5_238 q1_3 q5_239) rfl rfl rfl (by decide +kernel) ⟨Nat.le_of_ble_eq_true rfl, Nat.le_of_ble_eq_true rfl⟩) (va_recv X.1 X.2.1 (ci := 9) (q0 := 5) rfl rfl) (X.1.sub (tys' := tX9 yT_1) [3, 4, 5, 6, 7, 8, 9, 10, 11, 12, 13, 14] rfl) (X.2.1.sub (ws' := wX9 (aT 1) aT_1 yT_1 gT_1) [5, 6, 7, 8, 9, 10, 11, 12, 13, 14, 15, 16, 17] rfl) (X.2.2.1.sub (ws' := wX9 (aT 1) aT_1 yT_1 gT_1) [5, 6, 7, 8, 9, 10, 11, 12, 13, 14, 15, 16, 17] (by decide) rfl) (free_of (wC := wX9 (aT 1) aT_1 yT_1 gT_1) (isC := [5, 6, 7, 8, 9, 10, 11, 12, 13, 14, 15, 16, 17]) X rfl) hl.1 rfl rfl (Nat.le_of_ble_eq_true rfl) dX1_turn_4 ⟨Nat.le_of_ble_eq_true rfl, Nat.le_of_ble_eq_true rfl⟩ (fun t H1 locs1 ht hB hk hS => ?_)
  have X : Hx D (tX1 yT ++ (tX6 yT_0 ++ (tX9 yT_1 ++ (tX4 yP0 ++ (tX0 yP0_0))))) A s H1 locs1 (wX1 hT aT yT gT ++ (wX6 (aT 0) aT_0 yT_0 gT_0 ++ (wX9 (aT 1) aT_1 yT_1 q_1 ++ (wX4 hP0 aP0 yP0 gP0 ++ (wX0 (aP0 0) aP0_0 yP0_0 gP0_0))))) := Hx_after (isC := [5, 6, 7, 8, 9, 10, 11, 12, 13, 14, 15, 16, 17]) (isR := [0, 1, 2, 3, 4, 18, 19, 20, 21, 22, 23, 24, 25, 26, 27, 28, 29, 30, 31, 32, 33, 34, 35, 36, 37, 38, 39, 40, 41, 42, 43, 44]) (pm := [0, 1, 2, 3, 4, 32, 33, 34, 35, 36, 37, 38, 39, 40, 41, 42, 43, 44, 5, 6, 7, 8, 9, 10, 11, 12, 13, 14, 15, 16, 17, 18, 19, 20, 21, 22, 23, 24, 25, 26, 27, 28, 29, 30, 31]) (wr := wX1 hT aT yT gT ++ (wX6 (aT 0) aT_0 yT_0 gT_0 ++ (wX4 hP0 aP0 yP0 gP0 ++ (wX0 (aP0 0) aP0_0 yP0_0 gP0_0)))) X ⟨rfl, rfl, by decide, by decide, rfl, by decide⟩ ht hB hk hS
  clear hk hS ht hB
  generalize H1 = H at X ⊢
  generalize locs1 = locs at X ⊢
  refine lv_aload_n hx hb dX1_turn_7 rfl (lv_at hl 1 rfl) ?_
  refine va_getN (D := D.1) (ci := 4) (v := .int (gI gP0 4)) (C := RX4) (T := TX4) (N := 14) hx hb hts wi_X4 hown X.1 X.2.1 18 rfl rfl 4 (by decide) (X.2.2.2.2.2.1.use q2_80 rfl) (fun _ h9 => h9) (fl_get (by decide)) dX1_turn_8 ?_
  refine lv_aload_n hx hb dX1_turn_11 rfl (lv_at hl 1 rfl) ?_
  refine va_getN (D := D.1) (ci := 4) (v := .int (gI gP0 5)) (C := RX4) (T := TX4) (N := 14) hx hb hts wi_X4 hown X.1 X.2.1 18 rfl rfl 5 (by decide) (X.2.2.2.2.2.1.use q2_86 rfl) (fun _ h9 => h9) (fl_get (by decide)) dX1_turn_12 ?_
  refine lv_iadd hx hb dX1_turn_15 ?_
  refine lv_istore_n (lv' := [(2, .int ((gI gP0 4) + (gI gP0 5))), (0, .ref hT), (1, .ref hP0)]) hx hb dX1_turn_16 rfl hl (by decide) rfl (fun ls hl => ?_)
  refine lv_iconst (v := (0 : Int32)) hx hb dX1_turn_17 (by decide) ?_
  refine lv_istore_n (lv' := [(3, .int (0 : Int32)), (2, .int ((gI gP0 4) + (gI gP0 5))), (0, .ref hT), (1, .ref hP0)]) hx hb dX1_turn_18 rfl hl (by decide) rfl (fun ls hl => ?_)
  exact (kL_X1_turn l D hT aT yT aT_0 yT_0 aT_1 yT_1 hP0 aP0 yP0 aP0_0 yP0_0 n n) C X (lv_sub hl [2, 3, 1, 0] rfl) hF
