def kdX7 (k : Nat) : Nat := ([3, 3, 0, 0, 0, 0, 0, 0, 1, 2, 0, 0] : List Nat).getD k 9
def ksX7 : List Nat := []
def akX7 (k : Nat) : Nat := ([9, 9, 9, 9, 9, 9, 9, 9, 9, 9, 9, 9] : List Nat).getD k 9
def lnX7 (k : Nat) : Nat := ([0, 0, 0, 0, 0, 0, 0, 0, 0, 0, 0, 0] : List Nat).getD k 0
def tkX7 (k : Nat) : FieldType := ([.int, .int, .int, .int, .int, .int, .int, .int, .int, .int, .int, .int] : List FieldType).getD k .int
abbrev wX7 (h : Nat) (a : Nat → Nat) (y : Nat → ClassId) (g : Gs) : va_W := wG 7 12 kdX7 ksX7 akX7 lnX7 h a y g
abbrev tX7 (y : Nat → ClassId) : List (ClassId × FieldType) := tG ksX7 tkX7 y
theorem ndX7 : va_nd ksX7 = true := by decide
theorem wi_X7 : ∀ w ∈ u_ws RX7 TX7 12, w ∈ lw_all := wi_all (wi_eq rfl (wi_ch tc_3 [13, 15, 17, 19, 21, 23, 25, 27, 29, 31, 33, 35]))
theorem q3_174 : Cond.methodLink RJ0 1059 yJ3_checkIndex_8e157 ∈ lw_all := lw_in (tc_3 (List.mem_of_getElem? (i := 174) rfl)) rfl
theorem q3_175 : Cond.static yJ3_checkIndex_8e157 ∈ lw_all := lw_in (tc_3 (List.mem_of_getElem? (i := 175) rfl)) rfl
theorem q1_17 : Cond.initialized RJ3 ∈ lw_all := lw_in (tc_1 (List.mem_of_getElem? (i := 17) rfl)) rfl
theorem q3_176 : Cond.code yJ3_checkIndex_8e157 cJ3_checkIndex_8e157 3 (some .int) ∈ lw_all := lw_in (tc_3 (List.mem_of_getElem? (i := 176) rfl)) rfl
theorem q3_172 : Cond.fieldLink RJ0 1053 "jdk/internal/util/Preconditions" "SIOOBE_FORMATTER" "Ljava/util/function/BiFunction;" ∈ lw_all := lw_in (tc_3 (List.mem_of_getElem? (i := 172) rfl)) rfl
theorem q3_164 : Cond.fieldLink RJ0 38 "java/lang/String" "COMPACT_STRINGS" "Z" ∈ lw_all := lw_in (tc_3 (List.mem_of_getElem? (i := 164) rfl)) rfl
theorem q10_52 : Cond.fieldLink RJ0 15 "java/lang/String" "coder" "B" ∈ lw_all := lw_in (tc_10 (List.mem_of_getElem? (i := 52) rfl)) rfl
theorem q3_169 : Cond.methodLink RJ1 9 yJ0_checkIndex_df160 ∈ lw_all := lw_in (tc_3 (List.mem_of_getElem? (i := 169) rfl)) rfl
theorem q3_170 : Cond.static yJ0_checkIndex_df160 ∈ lw_all := lw_in (tc_3 (List.mem_of_getElem? (i := 170) rfl)) rfl
theorem q1_15 : Cond.initialized RJ0 ∈ lw_all := lw_in (tc_1 (List.mem_of_getElem? (i := 15) rfl)) rfl
theorem q3_171 : Cond.code yJ0_checkIndex_df160 cJ0_checkIndex_df160 2 none ∈ lw_all := lw_in (tc_3 (List.mem_of_getElem? (i := 171) rfl)) rfl
theorem q3_160 : Cond.methodLink RJ0 492 yJ0_isLatin1_aae02 ∈ lw_all := lw_in (tc_3 (List.mem_of_getElem? (i := 160) rfl)) rfl
theorem q3_161 : Cond.instanceMethod yJ0_isLatin1_aae02 ∈ lw_all := lw_in (tc_3 (List.mem_of_getElem? (i := 161) rfl)) rfl
theorem q3_162 : Cond.selects RJ0 yJ0_isLatin1_aae02 yJ0_isLatin1_aae02 ∈ lw_all := lw_in (tc_3 (List.mem_of_getElem? (i := 162) rfl)) rfl
theorem q3_163 : Cond.code yJ0_isLatin1_aae02 cJ0_isLatin1_aae02 1 (some .boolean) ∈ lw_all := lw_in (tc_3 (List.mem_of_getElem? (i := 163) rfl)) rfl
theorem q10_53 : Cond.fieldLink RJ0 9 "java/lang/String" "value" "[B" ∈ lw_all := lw_in (tc_10 (List.mem_of_getElem? (i := 53) rfl)) rfl
theorem q3_166 : Cond.methodLink RJ0 495 yJ1_charAt_3b067 ∈ lw_all := lw_in (tc_3 (List.mem_of_getElem? (i := 166) rfl)) rfl
theorem q3_167 : Cond.static yJ1_charAt_3b067 ∈ lw_all := lw_in (tc_3 (List.mem_of_getElem? (i := 167) rfl)) rfl
theorem q1_16 : Cond.initialized RJ1 ∈ lw_all := lw_in (tc_1 (List.mem_of_getElem? (i := 16) rfl)) rfl
theorem q3_168 : Cond.code yJ1_charAt_3b067 cJ1_charAt_3b067 2 (some .char) ∈ lw_all := lw_in (tc_3 (List.mem_of_getElem? (i := 168) rfl)) rfl
theorem q4_9 : Cond.methodLink RJ1 88 yJ1_canEncode_9a6ad ∈ lw_all := lw_in (tc_4 (List.mem_of_getElem? (i := 9) rfl)) rfl
theorem q4_10 : Cond.static yJ1_canEncode_9a6ad ∈ lw_all := lw_in (tc_4 (List.mem_of_getElem? (i := 10) rfl)) rfl
theorem q4_11 : Cond.code yJ1_canEncode_9a6ad cJ1_canEncode_9a6ad 1 (some .boolean) ∈ lw_all := lw_in (tc_4 (List.mem_of_getElem? (i := 11) rfl)) rfl
theorem q4_12 : Cond.methodLink RJ1 92 Lib.Math.max.name ∈ lw_all := lw_in (tc_4 (List.mem_of_getElem? (i := 12) rfl)) rfl
theorem q4_15 : Cond.methodLink RJ1 38 Lib.Math.min.name ∈ lw_all := lw_in (tc_4 (List.mem_of_getElem? (i := 15) rfl)) rfl
theorem q4_16 : Cond.methodLink RJ1 95 yJ1_indexOfChar_4cfef ∈ lw_all := lw_in (tc_4 (List.mem_of_getElem? (i := 16) rfl)) rfl
theorem q4_17 : Cond.static yJ1_indexOfChar_4cfef ∈ lw_all := lw_in (tc_4 (List.mem_of_getElem? (i := 17) rfl)) rfl
theorem q4_18 : Cond.code yJ1_indexOfChar_4cfef cJ1_indexOfChar_4cfef 6 (some .int) ∈ lw_all := lw_in (tc_4 (List.mem_of_getElem? (i := 18) rfl)) rfl
theorem q4_2 : Cond.methodLink RJ0 335 yJ0_coder_7d493 ∈ lw_all := lw_in (tc_4 (List.mem_of_getElem? (i := 2) rfl)) rfl
theorem q4_3 : Cond.instanceMethod yJ0_coder_7d493 ∈ lw_all := lw_in (tc_4 (List.mem_of_getElem? (i := 3) rfl)) rfl
theorem q4_4 : Cond.selects RJ0 yJ0_coder_7d493 yJ0_coder_7d493 ∈ lw_all := lw_in (tc_4 (List.mem_of_getElem? (i := 4) rfl)) rfl
theorem q4_5 : Cond.code yJ0_coder_7d493 cJ0_coder_7d493 1 (some .byte) ∈ lw_all := lw_in (tc_4 (List.mem_of_getElem? (i := 5) rfl)) rfl
theorem q3_238 : Cond.methodLink RJ0 505 yJ0_length_8abf5 ∈ lw_all := lw_in (tc_3 (List.mem_of_getElem? (i := 238) rfl)) rfl
theorem q3_239 : Cond.instanceMethod yJ0_length_8abf5 ∈ lw_all := lw_in (tc_3 (List.mem_of_getElem? (i := 239) rfl)) rfl
theorem q4_0 : Cond.selects RJ0 yJ0_length_8abf5 yJ0_length_8abf5 ∈ lw_all := lw_in (tc_4 (List.mem_of_getElem? (i := 0) rfl)) rfl
theorem q4_1 : Cond.code yJ0_length_8abf5 cJ0_length_8abf5 1 (some .int) ∈ lw_all := lw_in (tc_4 (List.mem_of_getElem? (i := 1) rfl)) rfl
theorem q4_6 : Cond.methodLink RJ0 637 yJ1_indexOf_4cfef ∈ lw_all := lw_in (tc_4 (List.mem_of_getElem? (i := 6) rfl)) rfl
theorem q4_7 : Cond.static yJ1_indexOf_4cfef ∈ lw_all := lw_in (tc_4 (List.mem_of_getElem? (i := 7) rfl)) rfl
theorem q4_8 : Cond.code yJ1_indexOf_4cfef cJ1_indexOf_4cfef 4 (some .int) ∈ lw_all := lw_in (tc_4 (List.mem_of_getElem? (i := 8) rfl)) rfl
theorem q3_234 : Cond.methodLink RJ0 633 yJ0_indexOf_7cf53 ∈ lw_all := lw_in (tc_3 (List.mem_of_getElem? (i := 234) rfl)) rfl
theorem q3_235 : Cond.instanceMethod yJ0_indexOf_7cf53 ∈ lw_all := lw_in (tc_3 (List.mem_of_getElem? (i := 235) rfl)) rfl
theorem q3_236 : Cond.selects RJ0 yJ0_indexOf_7cf53 yJ0_indexOf_7cf53 ∈ lw_all := lw_in (tc_3 (List.mem_of_getElem? (i := 236) rfl)) rfl
theorem q3_237 : Cond.code yJ0_indexOf_7cf53 cJ0_indexOf_7cf53 3 (some .int) ∈ lw_all := lw_in (tc_3 (List.mem_of_getElem? (i := 237) rfl)) rfl
theorem q2_237 : Cond.fieldLink RX7 9 "TurningHall$Scanner" "length" "I" ∈ lw_all := lw_in (tc_2 (List.mem_of_getElem? (i := 237) rfl)) rfl
theorem q2_235 : Cond.fieldLink RX7 45 "TurningHall$Scanner" "text" "[B" ∈ lw_all := lw_in (tc_2 (List.mem_of_getElem? (i := 235) rfl)) rfl
theorem q3_3 : Cond.fieldLink RX7 24 "TurningHall$Scanner" "size" "I" ∈ lw_all := lw_in (tc_3 (List.mem_of_getElem? (i := 3) rfl)) rfl
theorem q3_156 : Cond.methodLink RX7 92 yJ0_charAt_5068e ∈ lw_all := lw_in (tc_3 (List.mem_of_getElem? (i := 156) rfl)) rfl
theorem q3_157 : Cond.instanceMethod yJ0_charAt_5068e ∈ lw_all := lw_in (tc_3 (List.mem_of_getElem? (i := 157) rfl)) rfl
theorem q3_158 : Cond.selects RJ0 yJ0_charAt_5068e yJ0_charAt_5068e ∈ lw_all := lw_in (tc_3 (List.mem_of_getElem? (i := 158) rfl)) rfl
theorem q3_159 : Cond.code yJ0_charAt_5068e cJ0_charAt_5068e 2 (some .char) ∈ lw_all := lw_in (tc_3 (List.mem_of_getElem? (i := 159) rfl)) rfl
theorem q2_238 : Cond.fieldLink RX7 15 "TurningHall$Scanner" "next" "I" ∈ lw_all := lw_in (tc_2 (List.mem_of_getElem? (i := 238) rfl)) rfl
theorem q3_134 : Cond.methodLink RX7 62 yX7_byteAt ∈ lw_all := lw_in (tc_3 (List.mem_of_getElem? (i := 134) rfl)) rfl
theorem q3_136 : Cond.instanceMethod yX7_byteAt ∈ lw_all := lw_in (tc_3 (List.mem_of_getElem? (i := 136) rfl)) rfl
theorem q0_3 : Cond.selects RX7 yX7_byteAt yX7_byteAt ∈ lw_all := lw_in (tc_0 (List.mem_of_getElem? (i := 3) rfl)) rfl
theorem q1_12 : Cond.initialized RX7 ∈ lw_all := lw_in (tc_1 (List.mem_of_getElem? (i := 12) rfl)) rfl
theorem q3_137 : Cond.code yX7_byteAt cX7_byteAt 2 (some .int) ∈ lw_all := lw_in (tc_3 (List.mem_of_getElem? (i := 137) rfl)) rfl
theorem q3_151 : Cond.methodLink RX7 86 yX7_wordKind ∈ lw_all := lw_in (tc_3 (List.mem_of_getElem? (i := 151) rfl)) rfl
theorem q3_153 : Cond.instanceMethod yX7_wordKind ∈ lw_all := lw_in (tc_3 (List.mem_of_getElem? (i := 153) rfl)) rfl
theorem q0_5 : Cond.selects RX7 yX7_wordKind yX7_wordKind ∈ lw_all := lw_in (tc_0 (List.mem_of_getElem? (i := 5) rfl)) rfl
theorem q3_154 : Cond.code yX7_wordKind cX7_wordKind 5 (some .int) ∈ lw_all := lw_in (tc_3 (List.mem_of_getElem? (i := 154) rfl)) rfl
theorem q2_239 : Cond.fieldLink RX7 18 "TurningHall$Scanner" "kind" "I" ∈ lw_all := lw_in (tc_2 (List.mem_of_getElem? (i := 239) rfl)) rfl
theorem q3_1 : Cond.fieldLink RX7 21 "TurningHall$Scanner" "place" "I" ∈ lw_all := lw_in (tc_3 (List.mem_of_getElem? (i := 1) rfl)) rfl
theorem q3_141 : Cond.methodLink RX7 70 yX7_isLetter ∈ lw_all := lw_in (tc_3 (List.mem_of_getElem? (i := 141) rfl)) rfl
theorem q3_142 : Cond.static yX7_isLetter ∈ lw_all := lw_in (tc_3 (List.mem_of_getElem? (i := 142) rfl)) rfl
theorem q3_143 : Cond.code yX7_isLetter cX7_isLetter 1 (some .boolean) ∈ lw_all := lw_in (tc_3 (List.mem_of_getElem? (i := 143) rfl)) rfl
theorem q3_148 : Cond.methodLink RX7 76 yX7_isDigit ∈ lw_all := lw_in (tc_3 (List.mem_of_getElem? (i := 148) rfl)) rfl
theorem q3_149 : Cond.static yX7_isDigit ∈ lw_all := lw_in (tc_3 (List.mem_of_getElem? (i := 149) rfl)) rfl
theorem q3_150 : Cond.code yX7_isDigit cX7_isDigit 1 (some .boolean) ∈ lw_all := lw_in (tc_3 (List.mem_of_getElem? (i := 150) rfl)) rfl
theorem q3_230 : Cond.methodLink RX7 100 yJ0_indexOf_0f7a4 ∈ lw_all := lw_in (tc_3 (List.mem_of_getElem? (i := 230) rfl)) rfl
theorem q3_231 : Cond.instanceMethod yJ0_indexOf_0f7a4 ∈ lw_all := lw_in (tc_3 (List.mem_of_getElem? (i := 231) rfl)) rfl
theorem q3_232 : Cond.selects RJ0 yJ0_indexOf_0f7a4 yJ0_indexOf_0f7a4 ∈ lw_all := lw_in (tc_3 (List.mem_of_getElem? (i := 232) rfl)) rfl
theorem q3_233 : Cond.code yJ0_indexOf_0f7a4 cJ0_indexOf_0f7a4 2 (some .int) ∈ lw_all := lw_in (tc_3 (List.mem_of_getElem? (i := 233) rfl)) rfl
theorem q4_54 : Cond.methodLink RX7 103 yX7_pairKind ∈ lw_all := lw_in (tc_4 (List.mem_of_getElem? (i := 54) rfl)) rfl
theorem q4_55 : Cond.static yX7_pairKind ∈ lw_all := lw_in (tc_4 (List.mem_of_getElem? (i := 55) rfl)) rfl
theorem q4_56 : Cond.code yX7_pairKind cX7_pairKind 2 (some .int) ∈ lw_all := lw_in (tc_4 (List.mem_of_getElem? (i := 56) rfl)) rfl
theorem q3_7 : Cond.fieldLink RX7 30 "TurningHall$Scanner" "whole" "J" ∈ lw_all := lw_in (tc_3 (List.mem_of_getElem? (i := 7) rfl)) rfl
theorem q3_204 : Cond.constantLong RX7 116 (9223372036854775807) ∈ lw_all := lw_in (tc_3 (List.mem_of_getElem? (i := 204) rfl)) rfl
theorem q3_205 : Cond.constantLong RX7 118 (10) ∈ lw_all := lw_in (tc_3 (List.mem_of_getElem? (i := 205) rfl)) rfl
theorem q3_11 : Cond.fieldLink RX7 38 "TurningHall$Scanner" "digits" "I" ∈ lw_all := lw_in (tc_3 (List.mem_of_getElem? (i := 11) rfl)) rfl
theorem q3_12 : Cond.fieldLink RX7 41 "TurningHall$Scanner" "tooLarge" "Z" ∈ lw_all := lw_in (tc_3 (List.mem_of_getElem? (i := 12) rfl)) rfl
theorem q3_5 : Cond.fieldLink RX7 27 "TurningHall$Scanner" "sort" "I" ∈ lw_all := lw_in (tc_3 (List.mem_of_getElem? (i := 5) rfl)) rfl
theorem q3_9 : Cond.fieldLink RX7 34 "TurningHall$Scanner" "real" "D" ∈ lw_all := lw_in (tc_3 (List.mem_of_getElem? (i := 9) rfl)) rfl
theorem q3_224 : Cond.constantLong RX7 120 (2147483647) ∈ lw_all := lw_in (tc_3 (List.mem_of_getElem? (i := 224) rfl)) rfl
theorem q2_236 : Cond.fieldLink RX7 49 "TurningHall$Scanner" "reals" "LTurningHall$Reals;" ∈ lw_all := lw_in (tc_2 (List.mem_of_getElem? (i := 236) rfl)) rfl
theorem q3_211 : Cond.methodLink RX7 124 yX6_scaled ∈ lw_all := lw_in (tc_3 (List.mem_of_getElem? (i := 211) rfl)) rfl
theorem q3_215 : Cond.methodLink RX7 130 yX6_isBeyond ∈ lw_all := lw_in (tc_3 (List.mem_of_getElem? (i := 215) rfl)) rfl
theorem q3_210 : Cond.constantDouble RX7 122 (4621819117588971520) ∈ lw_all := lw_in (tc_3 (List.mem_of_getElem? (i := 210) rfl)) rfl
theorem q3_200 : Cond.methodLink RX7 106 yX7_readDigits ∈ lw_all := lw_in (tc_3 (List.mem_of_getElem? (i := 200) rfl)) rfl
theorem q3_202 : Cond.instanceMethod yX7_readDigits ∈ lw_all := lw_in (tc_3 (List.mem_of_getElem? (i := 202) rfl)) rfl
theorem q0_7 : Cond.selects RX7 yX7_readDigits yX7_readDigits ∈ lw_all := lw_in (tc_0 (List.mem_of_getElem? (i := 7) rfl)) rfl
theorem q3_203 : Cond.code yX7_readDigits cX7_readDigits 4 (some .int) ∈ lw_all := lw_in (tc_3 (List.mem_of_getElem? (i := 203) rfl)) rfl
theorem q3_206 : Cond.methodLink RX7 109 yX7_settleReal ∈ lw_all := lw_in (tc_3 (List.mem_of_getElem? (i := 206) rfl)) rfl
theorem q3_208 : Cond.instanceMethod yX7_settleReal ∈ lw_all := lw_in (tc_3 (List.mem_of_getElem? (i := 208) rfl)) rfl
theorem q0_8 : Cond.selects RX7 yX7_settleReal yX7_settleReal ∈ lw_all := lw_in (tc_0 (List.mem_of_getElem? (i := 8) rfl)) rfl
theorem q3_209 : Cond.code yX7_settleReal cX7_settleReal 7 none ∈ lw_all := lw_in (tc_3 (List.mem_of_getElem? (i := 209) rfl)) rfl
theorem q3_220 : Cond.methodLink RX7 113 yX7_settleWhole ∈ lw_all := lw_in (tc_3 (List.mem_of_getElem? (i := 220) rfl)) rfl
theorem q3_222 : Cond.instanceMethod yX7_settleWhole ∈ lw_all := lw_in (tc_3 (List.mem_of_getElem? (i := 222) rfl)) rfl
theorem q0_9 : Cond.selects RX7 yX7_settleWhole yX7_settleWhole ∈ lw_all := lw_in (tc_0 (List.mem_of_getElem? (i := 9) rfl)) rfl
theorem q3_223 : Cond.code yX7_settleWhole cX7_settleWhole 2 none ∈ lw_all := lw_in (tc_3 (List.mem_of_getElem? (i := 223) rfl)) rfl
theorem q3_127 : Cond.methodLink RX7 53 Lib.Math.min.name ∈ lw_all := lw_in (tc_3 (List.mem_of_getElem? (i := 127) rfl)) rfl
theorem q3_225 : Cond.methodLink RX7 82 yX7_readSign ∈ lw_all := lw_in (tc_3 (List.mem_of_getElem? (i := 225) rfl)) rfl
theorem q3_227 : Cond.instanceMethod yX7_readSign ∈ lw_all := lw_in (tc_3 (List.mem_of_getElem? (i := 227) rfl)) rfl
theorem q0_10 : Cond.selects RX7 yX7_readSign yX7_readSign ∈ lw_all := lw_in (tc_0 (List.mem_of_getElem? (i := 10) rfl)) rfl
theorem q3_228 : Cond.code yX7_readSign cX7_readSign 5 none ∈ lw_all := lw_in (tc_3 (List.mem_of_getElem? (i := 228) rfl)) rfl
theorem q3_196 : Cond.methodLink RX7 79 yX7_readNumber ∈ lw_all := lw_in (tc_3 (List.mem_of_getElem? (i := 196) rfl)) rfl
theorem q3_198 : Cond.instanceMethod yX7_readNumber ∈ lw_all := lw_in (tc_3 (List.mem_of_getElem? (i := 198) rfl)) rfl
theorem q0_6 : Cond.selects RX7 yX7_readNumber yX7_readNumber ∈ lw_all := lw_in (tc_0 (List.mem_of_getElem? (i := 6) rfl)) rfl
theorem q3_199 : Cond.code yX7_readNumber cX7_readNumber 7 none ∈ lw_all := lw_in (tc_3 (List.mem_of_getElem? (i := 199) rfl)) rfl
theorem q3_144 : Cond.methodLink RX7 73 yX7_readWord ∈ lw_all := lw_in (tc_3 (List.mem_of_getElem? (i := 144) rfl)) rfl
theorem q3_146 : Cond.instanceMethod yX7_readWord ∈ lw_all := lw_in (tc_3 (List.mem_of_getElem? (i := 146) rfl)) rfl
theorem q0_4 : Cond.selects RX7 yX7_readWord yX7_readWord ∈ lw_all := lw_in (tc_0 (List.mem_of_getElem? (i := 4) rfl)) rfl
theorem q3_147 : Cond.code yX7_readWord cX7_readWord 2 none ∈ lw_all := lw_in (tc_3 (List.mem_of_getElem? (i := 147) rfl)) rfl
theorem q3_138 : Cond.methodLink RX7 66 yX7_isBlank ∈ lw_all := lw_in (tc_3 (List.mem_of_getElem? (i := 138) rfl)) rfl
theorem q3_139 : Cond.static yX7_isBlank ∈ lw_all := lw_in (tc_3 (List.mem_of_getElem? (i := 139) rfl)) rfl
theorem q3_140 : Cond.code yX7_isBlank cX7_isBlank 1 (some .boolean) ∈ lw_all := lw_in (tc_3 (List.mem_of_getElem? (i := 140) rfl)) rfl
theorem q3_130 : Cond.methodLink RX7 59 yX7_advance ∈ lw_all := lw_in (tc_3 (List.mem_of_getElem? (i := 130) rfl)) rfl
theorem q3_131 : Cond.instanceMethod yX7_advance ∈ lw_all := lw_in (tc_3 (List.mem_of_getElem? (i := 131) rfl)) rfl
theorem q3_132 : Cond.selects RX7 yX7_advance yX7_advance ∈ lw_all := lw_in (tc_3 (List.mem_of_getElem? (i := 132) rfl)) rfl
theorem q3_133 : Cond.code yX7_advance cX7_advance 2 none ∈ lw_all := lw_in (tc_3 (List.mem_of_getElem? (i := 133) rfl)) rfl
theorem dJ3_checkIndex_8e157_0 : decode cJ3_checkIndex_8e157 0 = .ok (.iload_n 0, 1) := by decide +kernel
theorem dJ3_checkIndex_8e157_1 : decode cJ3_checkIndex_8e157 1 = .ok (.ifCond .lt 8, 3) := by decide +kernel
theorem dJ3_checkIndex_8e157_4 : decode cJ3_checkIndex_8e157 4 = .ok (.iload_n 0, 1) := by decide +kernel
theorem dJ3_checkIndex_8e157_5 : decode cJ3_checkIndex_8e157 5 = .ok (.iload_n 1, 1) := by decide +kernel
theorem dJ3_checkIndex_8e157_6 : decode cJ3_checkIndex_8e157 6 = .ok (.if_icmp .lt 10, 3) := by decide +kernel
theorem dJ3_checkIndex_8e157_9 : decode cJ3_checkIndex_8e157 9 = .ok (.aload_n 2, 1) := by decide +kernel
theorem dJ3_checkIndex_8e157_10 : decode cJ3_checkIndex_8e157 10 = .ok (.iload_n 0, 1) := by decide +kernel
theorem dJ3_checkIndex_8e157_11 : decode cJ3_checkIndex_8e157 11 = .ok (.iload_n 1, 1) := by decide +kernel
theorem dJ3_checkIndex_8e157_12 : decode cJ3_checkIndex_8e157 12 = .ok (.invokestatic 95, 3) := by decide +kernel
theorem dJ3_checkIndex_8e157_15 : decode cJ3_checkIndex_8e157 15 = .ok (.athrow, 1) := by decide +kernel
theorem dJ3_checkIndex_8e157_16 : decode cJ3_checkIndex_8e157 16 = .ok (.iload_n 0, 1) := by decide +kernel
theorem dJ3_checkIndex_8e157_17 : decode cJ3_checkIndex_8e157 17 = .ok (.ireturn, 1) := by decide +kernel
abbrev R_J3_checkIndex_8e157__N : Room := ({ frames := 0, cells := 0, slots := 0, locals := 0 } : Room)
def f_J3_checkIndex_8e157__N (x0 : Int32) (x1 : Int32) : Option (Int32) :=
  if x0 < 0 then (none) else (if x0 < x1 then (some x0) else (none))
set_option maxHeartbeats 4000000 in
set_option maxRecDepth 100000 in
theorem c_J3_checkIndex_8e157__N (l : Launch) (D : Dx) (x0 : Int32) (x1 : Int32) (q : Int32) (hF : f_J3_checkIndex_8e157__N x0 x1 = some q) (sz : Nat) : Met l yJ3_checkIndex_8e157 (ws_ yJ3_checkIndex_8e157 cJ3_checkIndex_8e157 3 (some .int)) R_J3_checkIndex_8e157__N (PC D ([]) [.int x0, .int x1, .null] ([]) sz) (QI D (va_A ([]) sz) ([]) q) 0 0 (va_A ([]) sz) := by
  refine Met.ofW (cc := cJ3_checkIndex_8e157) (maxL := 3) (ret := (some .int)) (by decide) rfl ?_
  intro p e s m args below meth c s₁ B hml hv
  obtain ⟨rfl, hsz, hP, hK, hD, hN⟩ := hv
  subst hsz
  have C : Cx p s m _ meth c cJ3_checkIndex_8e157 (some .int) 3 RJ3 lw_all := Cx_of B hml
  have X := Hx_start hP hK hD hN
  obtain ⟨hx, hb, hr, -, hown, hts, hlk⟩ := id C
  generalize va_A ([]) s.heap.size = A at X ⊢
  have hl := lv_entry ([.int x0, .int x1, .null]) (n := 3) (Nat.le_of_ble_eq_true rfl)
  rw [lg_entry_eq]
  generalize (lg_sl ([.int x0, .int x1, .null]) ++ List.replicate (3 - (lg_sl ([.int x0, .int x1, .null])).length) Slot.unset).toArray = ls at hl ⊢
  have hl : lv_has ls 3 [(0, .int x0), (1, .int x1), (2, .null)] := hl
  unfold f_J3_checkIndex_8e157__N at hF
  refine lv_iload_n hx hb dJ3_checkIndex_8e157_0 rfl (lv_at hl 0 rfl) ?_
  refine lv_if_lt (tgt := 9) hx hb dJ3_checkIndex_8e157_1 (by decide) (fun c => ?_) (fun c => ?_)
  · replace hF := iT c hF
    cases hF
  · replace hF := iF c hF
    refine lv_iload_n hx hb dJ3_checkIndex_8e157_4 rfl (lv_at hl 0 rfl) ?_
    refine lv_iload_n hx hb dJ3_checkIndex_8e157_5 rfl (lv_at hl 1 rfl) ?_
    refine lv_icmp_lt (tgt := 16) hx hb dJ3_checkIndex_8e157_6 (by decide) (fun c => ?_) (fun c => ?_)
    · replace hF := iT c hF
      refine lv_iload_n hx hb dJ3_checkIndex_8e157_16 rfl (lv_at hl 0 rfl) ?_
      have hq := Option.some.inj hF
      subst hq
      exact rt_i C X dJ3_checkIndex_8e157_17
    · replace hF := iF c hF
      cases hF
set_option maxHeartbeats 4000000 in
set_option maxRecDepth 100000 in
theorem c_J3_checkIndex_8e157__R (l : Launch) (D : Dx) (tz : Nat) (x0 : Int32) (x1 : Int32) (q : Int32) (hF : f_J3_checkIndex_8e157__N x0 x1 = some q) (sz : Nat) : Met l yJ3_checkIndex_8e157 (ws_ yJ3_checkIndex_8e157 cJ3_checkIndex_8e157 3 (some .int)) R_J3_checkIndex_8e157__N (PC D ([]) [.int x0, .int x1, .ref tz] ([]) sz) (QI D (va_A ([]) sz) ([]) q) 0 0 (va_A ([]) sz) := by
  refine Met.ofW (cc := cJ3_checkIndex_8e157) (maxL := 3) (ret := (some .int)) (by decide) rfl ?_
  intro p e s m args below meth c s₁ B hml hv
  obtain ⟨rfl, hsz, hP, hK, hD, hN⟩ := hv
  subst hsz
  have C : Cx p s m _ meth c cJ3_checkIndex_8e157 (some .int) 3 RJ3 lw_all := Cx_of B hml
  have X := Hx_start hP hK hD hN
  obtain ⟨hx, hb, hr, -, hown, hts, hlk⟩ := id C
  generalize va_A ([]) s.heap.size = A at X ⊢
  have hl := lv_entry ([.int x0, .int x1, .ref tz]) (n := 3) (Nat.le_of_ble_eq_true rfl)
  rw [lg_entry_eq]
  generalize (lg_sl ([.int x0, .int x1, .ref tz]) ++ List.replicate (3 - (lg_sl ([.int x0, .int x1, .ref tz])).length) Slot.unset).toArray = ls at hl ⊢
  have hl : lv_has ls 3 [(0, .int x0), (1, .int x1), (2, .ref tz)] := hl
  unfold f_J3_checkIndex_8e157__N at hF
  refine lv_iload_n hx hb dJ3_checkIndex_8e157_0 rfl (lv_at hl 0 rfl) ?_
  refine lv_if_lt (tgt := 9) hx hb dJ3_checkIndex_8e157_1 (by decide) (fun c => ?_) (fun c => ?_)
  · replace hF := iT c hF
    cases hF
  · replace hF := iF c hF
    refine lv_iload_n hx hb dJ3_checkIndex_8e157_4 rfl (lv_at hl 0 rfl) ?_
    refine lv_iload_n hx hb dJ3_checkIndex_8e157_5 rfl (lv_at hl 1 rfl) ?_
    refine lv_icmp_lt (tgt := 16) hx hb dJ3_checkIndex_8e157_6 (by decide) (fun c => ?_) (fun c => ?_)
    · replace hF := iT c hF
      refine lv_iload_n hx hb dJ3_checkIndex_8e157_16 rfl (lv_at hl 0 rfl) ?_
      have hq := Option.some.inj hF
      subst hq
      exact rt_i C X dJ3_checkIndex_8e157_17
    · replace hF := iF c hF
      cases hF

/-! ### J0_checkIndex_df160 -/
theorem dJ0_checkIndex_df160_0 : decode cJ0_checkIndex_df160 0 = .ok (.iload_n 0, 1) := by decide +kernel
theorem dJ0_checkIndex_df160_1 : decode cJ0_checkIndex_df160 1 = .ok (.iload_n 1, 1) := by decide +kernel
theorem dJ0_checkIndex_df160_2 : decode cJ0_checkIndex_df160 2 = .ok (.getstatic 1053, 3) := by decide +kernel
theorem dJ0_checkIndex_df160_5 : decode cJ0_checkIndex_df160 5 = .ok (.invokestatic 1059, 3) := by decide +kernel
theorem dJ0_checkIndex_df160_8 : decode cJ0_checkIndex_df160 8 = .ok (.pop, 1) := by decide +kernel
theorem dJ0_checkIndex_df160_9 : decode cJ0_checkIndex_df160 9 = .ok (.return_, 1) := by decide +kernel
abbrev R_J0_checkIndex_df160 : Room := ({ frames := 1, cells := 0, slots := 0, locals := 22 } : Room)
def f_J0_checkIndex_df160 (x0 : Int32) (x1 : Int32) : Option (Unit) :=
  bnd (f_J3_checkIndex_8e157__N x0 x1) (fun q_1 => some ())
set_option maxHeartbeats 4000000 in
set_option maxRecDepth 100000 in
theorem c_J0_checkIndex_df160 (l : Launch) (D : Dx) (x0 : Int32) (x1 : Int32) (q : Unit) (hF : f_J0_checkIndex_df160 x0 x1 = some q) (sz : Nat) : Met l yJ0_checkIndex_df160 (ws_ yJ0_checkIndex_df160 cJ0_checkIndex_df160 2 none) R_J0_checkIndex_df160 (PC D ([]) [.int x0, .int x1] ([]) sz) (QV D (va_A ([]) sz) ([])) 0 0 (va_A ([]) sz) := by
  refine Met.ofW (cc := cJ0_checkIndex_df160) (maxL := 2) (ret := none) (by decide) rfl ?_
  intro p e s m args below meth c s₁ B hml hv
  obtain ⟨rfl, hsz, hP, hK, hD, hN⟩ := hv
  subst hsz
  have C : Cx p s m _ meth c cJ0_checkIndex_df160 none 2 RJ0 lw_all := Cx_of B hml
  have X := Hx_start hP hK hD hN
  obtain ⟨hx, hb, hr, -, hown, hts, hlk⟩ := id C
  generalize va_A ([]) s.heap.size = A at X ⊢
  have hl := lv_entry ([.int x0, .int x1]) (n := 2) (Nat.le_of_ble_eq_true rfl)
  rw [lg_entry_eq]
  generalize (lg_sl ([.int x0, .int x1]) ++ List.replicate (2 - (lg_sl ([.int x0, .int x1])).length) Slot.unset).toArray = ls at hl ⊢
  have hl : lv_has ls 2 [(0, .int x0), (1, .int x1)] := hl
  unfold f_J0_checkIndex_df160 at hF
  refine lv_iload_n hx hb dJ0_checkIndex_df160_0 rfl (lv_at hl 0 rfl) ?_
  refine lv_iload_n hx hb dJ0_checkIndex_df160_1 rfl (lv_at hl 1 rfl) ?_
  rcases X.2.2.2.2.2.2.2.2.2.2.2.2 with hz | ⟨tz, hz⟩
  · refine va_gets hx hb hz X.2.2.2.1 hown (hts _ q3_172) (fun _ h9 => h9) dJ0_checkIndex_df160_2 ?_
    obtain ⟨q_1, hc_2, hF⟩ := bnd_some hF
    refine cS_i (As := [.int x0, .int x1, .null]) (rest := []) C X (c_J3_checkIndex_8e157__N l D  x0 x1 q_1 hc_2 _) (va_cwS 3 hts (good_S q3_174 q3_175 q1_17 q3_176) rfl rfl rfl (by decide +kernel) ⟨Nat.le_of_ble_eq_true rfl, Nat.le_of_ble_eq_true rfl⟩) (eK X) eP (eD (A := A)) (eF X) hl.1 rfl rfl (Nat.le_of_ble_eq_true rfl) dJ0_checkIndex_df160_5 ⟨Nat.le_of_ble_eq_true rfl, Nat.le_of_ble_eq_true rfl⟩ (fun t H1 locs1 ht hB hk hS => ?_)
    have X := Hx_after_none X hk hS
    clear hk hS ht hB
    generalize H1 = H at X ⊢
    generalize locs1 = locs at X ⊢
    refine lv_pop hx hb dJ0_checkIndex_df160_8 rfl ?_
    have hq := Option.some.inj hF
    subst hq
    exact rt_v C X dJ0_checkIndex_df160_9
  · refine va_gets hx hb hz X.2.2.2.1 hown (hts _ q3_172) (fun _ h9 => h9) dJ0_checkIndex_df160_2 ?_
    obtain ⟨q_3, hc_4, hF⟩ := bnd_some hF
    refine cS_i (As := [.int x0, .int x1, .ref tz]) (rest := []) C X (c_J3_checkIndex_8e157__R l D tz x0 x1 q_3 hc_4 _) (va_cwS 3 hts (good_S q3_174 q3_175 q1_17 q3_176) rfl rfl rfl (by decide +kernel) ⟨Nat.le_of_ble_eq_true rfl, Nat.le_of_ble_eq_true rfl⟩) (eK X) eP (eD (A := A)) (eF X) hl.1 rfl rfl (Nat.le_of_ble_eq_true rfl) dJ0_checkIndex_df160_5 ⟨Nat.le_of_ble_eq_true rfl, Nat.le_of_ble_eq_true rfl⟩ (fun t H1 locs1 ht hB hk hS => ?_)
    have X := Hx_after_none X hk hS
    clear hk hS ht hB
    generalize H1 = H at X ⊢
    generalize locs1 = locs at X ⊢
    refine lv_pop hx hb dJ0_checkIndex_df160_8 rfl ?_
    have hq := Option.some.inj hF
    subst hq
    exact rt_v C X dJ0_checkIndex_df160_9

/-! ### J0_isLatin1_aae02__S0 -/
theorem dJ0_isLatin1_aae02_0 : decode cJ0_isLatin1_aae02 0 = .ok (.getstatic 38, 3) := by decide +kernel
theorem dJ0_isLatin1_aae02_3 : decode cJ0_isLatin1_aae02 3 = .ok (.ifCond .eq 14, 3) := by decide +kernel
theorem dJ0_isLatin1_aae02_6 : decode cJ0_isLatin1_aae02 6 = .ok (.aload_n 0, 1) := by decide +kernel
theorem dJ0_isLatin1_aae02_7 : decode cJ0_isLatin1_aae02 7 = .ok (.getfield 15, 3) := by decide +kernel
theorem dJ0_isLatin1_aae02_10 : decode cJ0_isLatin1_aae02 10 = .ok (.ifCond .ne 7, 3) := by decide +kernel
theorem dJ0_isLatin1_aae02_13 : decode cJ0_isLatin1_aae02 13 = .ok (.iconst 1, 1) := by decide +kernel
theorem dJ0_isLatin1_aae02_14 : decode cJ0_isLatin1_aae02 14 = .ok (.goto 4, 3) := by decide +kernel
theorem dJ0_isLatin1_aae02_17 : decode cJ0_isLatin1_aae02 17 = .ok (.iconst 0, 1) := by decide +kernel
theorem dJ0_isLatin1_aae02_18 : decode cJ0_isLatin1_aae02 18 = .ok (.ireturn, 1) := by decide +kernel
abbrev R_J0_isLatin1_aae02__S0 : Room := ({ frames := 0, cells := 0, slots := 0, locals := 0 } : Room)
def f_J0_isLatin1_aae02__S0 : Option (Int32) :=
  if (1 : Int32) = 0 then (some (0 : Int32)) else (if (0 : Int32) = 0 then (some (1 : Int32)) else (some (0 : Int32)))
set_option maxHeartbeats 4000000 in
set_option maxRecDepth 100000 in
theorem c_J0_isLatin1_aae02__S0 (l : Launch) (D : Dx) (q : Int32) (hF : f_J0_isLatin1_aae02__S0 = some q) (sz : Nat) : Met l yJ0_isLatin1_aae02 (ws_ yJ0_isLatin1_aae02 cJ0_isLatin1_aae02 1 (some .boolean)) R_J0_isLatin1_aae02__S0 (PC D ([]) [.ref (D.2.2.1 0)] ([]) sz) (QI D (va_A ([]) sz) ([]) q) 0 0 (va_A ([]) sz) := by
  refine Met.ofW (cc := cJ0_isLatin1_aae02) (maxL := 1) (ret := (some .boolean)) (by decide) rfl ?_
  intro p e s m args below meth c s₁ B hml hv
  obtain ⟨rfl, hsz, hP, hK, hD, hN⟩ := hv
  subst hsz
  have C : Cx p s m _ meth c cJ0_isLatin1_aae02 (some .boolean) 1 RJ0 lw_all := Cx_of B hml
  have X := Hx_start hP hK hD hN
  obtain ⟨hx, hb, hr, -, hown, hts, hlk⟩ := id C
  generalize va_A ([]) s.heap.size = A at X ⊢
  have hl := lv_entry ([.ref (D.2.2.1 0)]) (n := 1) (Nat.le_of_ble_eq_true rfl)
  rw [lg_entry_eq]
  generalize (lg_sl ([.ref (D.2.2.1 0)]) ++ List.replicate (1 - (lg_sl ([.ref (D.2.2.1 0)])).length) Slot.unset).toArray = ls at hl ⊢
  have hl : lv_has ls 1 [(0, .ref (D.2.2.1 0))] := hl
  unfold f_J0_isLatin1_aae02__S0 at hF
  refine va_gets hx hb X.2.2.2.2.2.2.2.2.2.2.2.1 X.2.2.2.1 hown (hts _ q3_164) (fun _ h9 => h9) dJ0_isLatin1_aae02_0 ?_
  refine lv_if_eq (tgt := 17) hx hb dJ0_isLatin1_aae02_3 (by decide) (fun c => ?_) (fun c => ?_)
  · replace hF := iT c hF
    refine lv_iconst (v := (0 : Int32)) hx hb dJ0_isLatin1_aae02_17 (by decide) ?_
    have hq := Option.some.inj hF
    subst hq
    exact rt_z (v := (0 : Int32)) C X (by decide) dJ0_isLatin1_aae02_18
  · replace hF := iF c hF
    refine lv_aload_n hx hb dJ0_isLatin1_aae02_6 rfl (lv_at hl 0 rfl) ?_
    refine vk_getf hx hb (X.2.2.2.2.2.2.2.2.1.1 0 (by decide)).2.1 X.2.2.2.1 hown (hts _ q10_52) (fun _ h9 => h9) dJ0_isLatin1_aae02_7 ?_
    refine lv_if_ne (tgt := 17) hx hb dJ0_isLatin1_aae02_10 (by decide) (fun c => ?_) (fun c => ?_)
    · replace hF := iF c hF
      refine lv_iconst (v := (0 : Int32)) hx hb dJ0_isLatin1_aae02_17 (by decide) ?_
      have hq := Option.some.inj hF
      subst hq
      exact rt_z (v := (0 : Int32)) C X (by decide) dJ0_isLatin1_aae02_18
    · replace hF := iT c hF
      refine lv_iconst (v := (1 : Int32)) hx hb dJ0_isLatin1_aae02_13 (by decide) ?_
      refine lv_goto (tgt := 18) hx hb dJ0_isLatin1_aae02_14 (by decide) ?_
      have hq := Option.some.inj hF
      subst hq
      exact rt_z (v := (1 : Int32)) C X (by decide) dJ0_isLatin1_aae02_18

/-! ### J0_isLatin1_aae02__S1 -/
abbrev R_J0_isLatin1_aae02__S1 : Room := ({ frames := 0, cells := 0, slots := 0, locals := 0 } : Room)
def f_J0_isLatin1_aae02__S1 : Option (Int32) :=
  if (1 : Int32) = 0 then (some (0 : Int32)) else (if (0 : Int32) = 0 then (some (1 : Int32)) else (some (0 : Int32)))
set_option maxHeartbeats 4000000 in
set_option maxRecDepth 100000 in
theorem c_J0_isLatin1_aae02__S1 (l : Launch) (D : Dx) (q : Int32) (hF : f_J0_isLatin1_aae02__S1 = some q) (sz : Nat) : Met l yJ0_isLatin1_aae02 (ws_ yJ0_isLatin1_aae02 cJ0_isLatin1_aae02 1 (some .boolean)) R_J0_isLatin1_aae02__S1 (PC D ([]) [.ref (D.2.2.1 1)] ([]) sz) (QI D (va_A ([]) sz) ([]) q) 0 0 (va_A ([]) sz) := by
  refine Met.ofW (cc := cJ0_isLatin1_aae02) (maxL := 1) (ret := (some .boolean)) (by decide) rfl ?_
  intro p e s m args below meth c s₁ B hml hv
  obtain ⟨rfl, hsz, hP, hK, hD, hN⟩ := hv
  subst hsz
  have C : Cx p s m _ meth c cJ0_isLatin1_aae02 (some .boolean) 1 RJ0 lw_all := Cx_of B hml
  have X := Hx_start hP hK hD hN
  obtain ⟨hx, hb, hr, -, hown, hts, hlk⟩ := id C
  generalize va_A ([]) s.heap.size = A at X ⊢
  have hl := lv_entry ([.ref (D.2.2.1 1)]) (n := 1) (Nat.le_of_ble_eq_true rfl)
  rw [lg_entry_eq]
  generalize (lg_sl ([.ref (D.2.2.1 1)]) ++ List.replicate (1 - (lg_sl ([.ref (D.2.2.1 1)])).length) Slot.unset).toArray = ls at hl ⊢
  have hl : lv_has ls 1 [(0, .ref (D.2.2.1 1))] := hl
  unfold f_J0_isLatin1_aae02__S1 at hF
  refine va_gets hx hb X.2.2.2.2.2.2.2.2.2.2.2.1 X.2.2.2.1 hown (hts _ q3_164) (fun _ h9 => h9) dJ0_isLatin1_aae02_0 ?_
  refine lv_if_eq (tgt := 17) hx hb dJ0_isLatin1_aae02_3 (by decide) (fun c => ?_) (fun c => ?_)
  · replace hF := iT c hF
    refine lv_iconst (v := (0 : Int32)) hx hb dJ0_isLatin1_aae02_17 (by decide) ?_
    have hq := Option.some.inj hF
    subst hq
    exact rt_z (v := (0 : Int32)) C X (by decide) dJ0_isLatin1_aae02_18
  · replace hF := iF c hF
    refine lv_aload_n hx hb dJ0_isLatin1_aae02_6 rfl (lv_at hl 0 rfl) ?_
    refine vk_getf hx hb (X.2.2.2.2.2.2.2.2.1.1 1 (by decide)).2.1 X.2.2.2.1 hown (hts _ q10_52) (fun _ h9 => h9) dJ0_isLatin1_aae02_7 ?_
    refine lv_if_ne (tgt := 17) hx hb dJ0_isLatin1_aae02_10 (by decide) (fun c => ?_) (fun c => ?_)
    · replace hF := iF c hF
      refine lv_iconst (v := (0 : Int32)) hx hb dJ0_isLatin1_aae02_17 (by decide) ?_
      have hq := Option.some.inj hF
      subst hq
      exact rt_z (v := (0 : Int32)) C X (by decide) dJ0_isLatin1_aae02_18
    · replace hF := iT c hF
      refine lv_iconst (v := (1 : Int32)) hx hb dJ0_isLatin1_aae02_13 (by decide) ?_
      refine lv_goto (tgt := 18) hx hb dJ0_isLatin1_aae02_14 (by decide) ?_
      have hq := Option.some.inj hF
      subst hq
      exact rt_z (v := (1 : Int32)) C X (by decide) dJ0_isLatin1_aae02_18

/-! ### J1_charAt_3b067__S0 -/
theorem dJ1_charAt_3b067_0 : decode cJ1_charAt_3b067 0 = .ok (.iload_n 1, 1) := by decide +kernel
theorem dJ1_charAt_3b067_1 : decode cJ1_charAt_3b067 1 = .ok (.aload_n 0, 1) := by decide +kernel
theorem dJ1_charAt_3b067_2 : decode cJ1_charAt_3b067 2 = .ok (.arraylength, 1) := by decide +kernel
theorem dJ1_charAt_3b067_3 : decode cJ1_charAt_3b067 3 = .ok (.invokestatic 9, 3) := by decide +kernel
theorem dJ1_charAt_3b067_6 : decode cJ1_charAt_3b067 6 = .ok (.aload_n 0, 1) := by decide +kernel
theorem dJ1_charAt_3b067_7 : decode cJ1_charAt_3b067 7 = .ok (.iload_n 1, 1) := by decide +kernel
theorem dJ1_charAt_3b067_8 : decode cJ1_charAt_3b067 8 = .ok (.baload, 1) := by decide +kernel
theorem dJ1_charAt_3b067_9 : decode cJ1_charAt_3b067 9 = .ok (.sipush 255, 3) := by decide +kernel
theorem dJ1_charAt_3b067_12 : decode cJ1_charAt_3b067 12 = .ok (.iand, 1) := by decide +kernel
theorem dJ1_charAt_3b067_13 : decode cJ1_charAt_3b067 13 = .ok (.i2c, 1) := by decide +kernel
theorem dJ1_charAt_3b067_14 : decode cJ1_charAt_3b067 14 = .ok (.ireturn, 1) := by decide +kernel
abbrev R_J1_charAt_3b067__S0 : Room := ({ frames := 2, cells := 0, slots := 0, locals := 43 } : Room)
def f_J1_charAt_3b067__S0 (x1 : Int32) : Option (Int32) :=
  bnd (f_J0_checkIndex_df160 x1 (156 : Int32)) (fun q_1 => grd (inB x1 156) (grd (cB ((((wordsB.getD x1.toNatClampNeg 0) &&& (255 : Int32)).toUInt32 % 65536).toInt32)) (some ((((wordsB.getD x1.toNatClampNeg 0) &&& (255 : Int32)).toUInt32 % 65536).toInt32))))
set_option maxHeartbeats 4000000 in
set_option maxRecDepth 100000 in
theorem c_J1_charAt_3b067__S0 (l : Launch) (D : Dx) (x1 : Int32) (q : Int32) (hF : f_J1_charAt_3b067__S0 x1 = some q) (sz : Nat) : Met l yJ1_charAt_3b067 (ws_ yJ1_charAt_3b067 cJ1_charAt_3b067 2 (some .char)) R_J1_charAt_3b067__S0 (PC D ([]) [.ref (D.2.2.2 0), .int x1] ([]) sz) (QI D (va_A ([]) sz) ([]) q) 0 0 (va_A ([]) sz) := by
  refine Met.ofW (cc := cJ1_charAt_3b067) (maxL := 2) (ret := (some .char)) (by decide) rfl ?_
  intro p e s m args below meth c s₁ B hml hv
  obtain ⟨rfl, hsz, hP, hK, hD, hN⟩ := hv
  subst hsz
  have C : Cx p s m _ meth c cJ1_charAt_3b067 (some .char) 2 RJ1 lw_all := Cx_of B hml
  have X := Hx_start hP hK hD hN
  obtain ⟨hx, hb, hr, -, hown, hts, hlk⟩ := id C
  generalize va_A ([]) s.heap.size = A at X ⊢
  have hl := lv_entry ([.ref (D.2.2.2 0), .int x1]) (n := 2) (Nat.le_of_ble_eq_true rfl)
  rw [lg_entry_eq]
  generalize (lg_sl ([.ref (D.2.2.2 0), .int x1]) ++ List.replicate (2 - (lg_sl ([.ref (D.2.2.2 0), .int x1])).length) Slot.unset).toArray = ls at hl ⊢
  have hl : lv_has ls 2 [(0, .ref (D.2.2.2 0)), (1, .int x1)] := hl
  unfold f_J1_charAt_3b067__S0 at hF
  refine lv_iload_n hx hb dJ1_charAt_3b067_0 rfl (lv_at hl 1 rfl) ?_
  refine lv_aload_n hx hb dJ1_charAt_3b067_1 rfl (lv_at hl 0 rfl) ?_
  refine va_tlen (v := (156 : Int32)) hx hb (X.2.2.2.2.2.2.2.2.1.1 0 (by decide)).2.2.2 X.2.2.2.1 rfl dJ1_charAt_3b067_2 ?_
  obtain ⟨q_1, hc_2, hF⟩ := bnd_some hF
  refine cS_v (As := [.int x1, .int (156 : Int32)]) (rest := []) C X (c_J0_checkIndex_df160 l D  x1 (156 : Int32) q_1 hc_2 _) (va_cwS 2 hts (good_S q3_169 q3_170 q1_15 q3_171) rfl rfl rfl (by decide +kernel) ⟨Nat.le_of_ble_eq_true rfl, Nat.le_of_ble_eq_true rfl⟩) (eK X) eP (eD (A := A)) (eF X) hl.1 rfl rfl (Nat.le_of_ble_eq_true rfl) dJ1_charAt_3b067_3 ⟨Nat.le_of_ble_eq_true rfl, Nat.le_of_ble_eq_true rfl⟩ (fun t H1 locs1 ht hB hk hS => ?_)
  have X := Hx_after_none X hk hS
  clear hk hS ht hB
  generalize H1 = H at X ⊢
  generalize locs1 = locs at X ⊢
  refine lv_aload_n hx hb dJ1_charAt_3b067_6 rfl (lv_at hl 0 rfl) ?_
  refine lv_iload_n hx hb dJ1_charAt_3b067_7 rfl (lv_at hl 1 rfl) ?_
  obtain ⟨h_3, hF⟩ := grd_some hF
  refine va_tb (v := .int (wordsB.getD x1.toNatClampNeg 0)) hx hb (X.2.2.2.2.2.2.2.2.1.1 0 (by decide)).2.2.2 X.2.2.2.1 (inB_ok h_3) rfl dJ1_charAt_3b067_8 ?_
  refine lv_sipush (v := (255 : Int32)) hx hb dJ1_charAt_3b067_9 (by decide) ?_
  refine lv_iand hx hb dJ1_charAt_3b067_12 ?_
  refine lv_i2c hx hb dJ1_charAt_3b067_13 rfl ?_
  obtain ⟨h_4, hF⟩ := grd_some hF
  have hq := Option.some.inj hF
  subst hq
  exact rt_z (v := (((wordsB.getD x1.toNatClampNeg 0) &&& (255 : Int32)).toUInt32 % 65536).toInt32) C X (cB_n h_4) dJ1_charAt_3b067_14

/-! ### J0_charAt_5068e__S0 -/
theorem dJ0_charAt_5068e_0 : decode cJ0_charAt_5068e 0 = .ok (.aload_n 0, 1) := by decide +kernel
theorem dJ0_charAt_5068e_1 : decode cJ0_charAt_5068e 1 = .ok (.invokevirtual 492, 3) := by decide +kernel
theorem dJ0_charAt_5068e_4 : decode cJ0_charAt_5068e 4 = .ok (.ifCond .eq 12, 3) := by decide +kernel
theorem dJ0_charAt_5068e_7 : decode cJ0_charAt_5068e 7 = .ok (.aload_n 0, 1) := by decide +kernel
theorem dJ0_charAt_5068e_8 : decode cJ0_charAt_5068e 8 = .ok (.getfield 9, 3) := by decide +kernel
theorem dJ0_charAt_5068e_11 : decode cJ0_charAt_5068e 11 = .ok (.iload_n 1, 1) := by decide +kernel
theorem dJ0_charAt_5068e_12 : decode cJ0_charAt_5068e 12 = .ok (.invokestatic 495, 3) := by decide +kernel
theorem dJ0_charAt_5068e_15 : decode cJ0_charAt_5068e 15 = .ok (.ireturn, 1) := by decide +kernel
theorem dJ0_charAt_5068e_16 : decode cJ0_charAt_5068e 16 = .ok (.aload_n 0, 1) := by decide +kernel
theorem dJ0_charAt_5068e_17 : decode cJ0_charAt_5068e 17 = .ok (.getfield 9, 3) := by decide +kernel
theorem dJ0_charAt_5068e_20 : decode cJ0_charAt_5068e 20 = .ok (.iload_n 1, 1) := by decide +kernel
theorem dJ0_charAt_5068e_21 : decode cJ0_charAt_5068e 21 = .ok (.invokestatic 498, 3) := by decide +kernel
theorem dJ0_charAt_5068e_24 : decode cJ0_charAt_5068e 24 = .ok (.ireturn, 1) := by decide +kernel
abbrev R_J0_charAt_5068e__S0 : Room := ({ frames := 3, cells := 0, slots := 0, locals := 64 } : Room)
def f_J0_charAt_5068e__S0 (x0 : Int32) : Option (Int32) :=
  bnd (f_J0_isLatin1_aae02__S0) (fun q_1 => if q_1 = 0 then (none) else (bnd (f_J1_charAt_3b067__S0 x0) (fun q_3 => grd (cB q_3) (some q_3))))
set_option maxHeartbeats 4000000 in
set_option maxRecDepth 100000 in
theorem c_J0_charAt_5068e__S0 (l : Launch) (D : Dx) (x0 : Int32) (q : Int32) (hF : f_J0_charAt_5068e__S0 x0 = some q) (sz : Nat) : Met l yJ0_charAt_5068e (ws_ yJ0_charAt_5068e cJ0_charAt_5068e 2 (some .char)) R_J0_charAt_5068e__S0 (PC D ([]) [.ref (D.2.2.1 0), .int x0] ([]) sz) (QI D (va_A ([]) sz) ([]) q) 0 0 (va_A ([]) sz) := by
  refine Met.ofW (cc := cJ0_charAt_5068e) (maxL := 2) (ret := (some .char)) (by decide) rfl ?_
  intro p e s m args below meth c s₁ B hml hv
  obtain ⟨rfl, hsz, hP, hK, hD, hN⟩ := hv
  subst hsz
  have C : Cx p s m _ meth c cJ0_charAt_5068e (some .char) 2 RJ0 lw_all := Cx_of B hml
  have X := Hx_start hP hK hD hN
  obtain ⟨hx, hb, hr, -, hown, hts, hlk⟩ := id C
  generalize va_A ([]) s.heap.size = A at X ⊢
  have hl := lv_entry ([.ref (D.2.2.1 0), .int x0]) (n := 2) (Nat.le_of_ble_eq_true rfl)
  rw [lg_entry_eq]
  generalize (lg_sl ([.ref (D.2.2.1 0), .int x0]) ++ List.replicate (2 - (lg_sl ([.ref (D.2.2.1 0), .int x0])).length) Slot.unset).toArray = ls at hl ⊢
  have hl : lv_has ls 2 [(0, .ref (D.2.2.1 0)), (1, .int x0)] := hl
  unfold f_J0_charAt_5068e__S0 at hF
  refine lv_aload_n hx hb dJ0_charAt_5068e_0 rfl (lv_at hl 0 rfl) ?_
  obtain ⟨q_1, hc_2, hF⟩ := bnd_some hF
  refine cV_i (As := []) (rest := []) C X (c_J0_isLatin1_aae02__S0 l D   q_1 hc_2 _) (cwV 0 hts (good_V q3_160 q3_161 q3_162 q1_15 q3_163) rfl rfl rfl (by decide +kernel) ⟨Nat.le_of_ble_eq_true rfl, Nat.le_of_ble_eq_true rfl⟩) (vk_recv (i := 0) X.2.2.2.2.2.2.2.2.1 (by decide) X.2.2.2.1) (eK X) eP (eD (A := A)) (eF X) hl.1 rfl rfl (Nat.le_of_ble_eq_true rfl) dJ0_charAt_5068e_1 ⟨Nat.le_of_ble_eq_true rfl, Nat.le_of_ble_eq_true rfl⟩ (fun t H1 locs1 ht hB hk hS => ?_)
  have X := Hx_after_none X hk hS
  clear hk hS ht hB
  generalize H1 = H at X ⊢
  generalize locs1 = locs at X ⊢
  refine lv_if_eq (tgt := 16) hx hb dJ0_charAt_5068e_4 (by decide) (fun c => ?_) (fun c => ?_)
  · replace hF := iT c hF
    cases hF
  · replace hF := iF c hF
    refine lv_aload_n hx hb dJ0_charAt_5068e_7 rfl (lv_at hl 0 rfl) ?_
    refine vk_getf hx hb (X.2.2.2.2.2.2.2.2.1.1 0 (by decide)).2.2.1 X.2.2.2.1 hown (hts _ q10_53) (fun _ h9 => h9) dJ0_charAt_5068e_8 ?_
    refine lv_iload_n hx hb dJ0_charAt_5068e_11 rfl (lv_at hl 1 rfl) ?_
    obtain ⟨q_3, hc_4, hF⟩ := bnd_some hF
    refine cS_i (As := [.ref (D.2.2.2 0), .int x0]) (rest := []) C X (c_J1_charAt_3b067__S0 l D  x0 q_3 hc_4 _) (va_cwS 2 hts (good_S q3_166 q3_167 q1_16 q3_168) rfl rfl rfl (by decide +kernel) ⟨Nat.le_of_ble_eq_true rfl, Nat.le_of_ble_eq_true rfl⟩) (eK X) eP (eD (A := A)) (eF X) hl.1 rfl rfl (Nat.le_of_ble_eq_true rfl) dJ0_charAt_5068e_12 ⟨Nat.le_of_ble_eq_true rfl, Nat.le_of_ble_eq_true rfl⟩ (fun t H1 locs1 ht hB hk hS => ?_)
    have X := Hx_after_none X hk hS
    clear hk hS ht hB
    generalize H1 = H at X ⊢
    generalize locs1 = locs at X ⊢
    obtain ⟨h_5, hF⟩ := grd_some hF
    have hq := Option.some.inj hF
    subst hq
    exact rt_z (v := q_3) C X (cB_n h_5) dJ0_charAt_5068e_15

/-! ### J1_canEncode_9a6ad -/
theorem dJ1_canEncode_9a6ad_0 : decode cJ1_canEncode_9a6ad 0 = .ok (.iload_n 0, 1) := by decide +kernel
theorem dJ1_canEncode_9a6ad_1 : decode cJ1_canEncode_9a6ad 1 = .ok (.ifCond .lt 14, 3) := by decide +kernel
theorem dJ1_canEncode_9a6ad_4 : decode cJ1_canEncode_9a6ad 4 = .ok (.iload_n 0, 1) := by decide +kernel
theorem dJ1_canEncode_9a6ad_5 : decode cJ1_canEncode_9a6ad 5 = .ok (.sipush 255, 3) := by decide +kernel
theorem dJ1_canEncode_9a6ad_8 : decode cJ1_canEncode_9a6ad 8 = .ok (.if_icmp .gt 7, 3) := by decide +kernel
theorem dJ1_canEncode_9a6ad_11 : decode cJ1_canEncode_9a6ad 11 = .ok (.iconst 1, 1) := by decide +kernel
theorem dJ1_canEncode_9a6ad_12 : decode cJ1_canEncode_9a6ad 12 = .ok (.goto 4, 3) := by decide +kernel
theorem dJ1_canEncode_9a6ad_15 : decode cJ1_canEncode_9a6ad 15 = .ok (.iconst 0, 1) := by decide +kernel
theorem dJ1_canEncode_9a6ad_16 : decode cJ1_canEncode_9a6ad 16 = .ok (.ireturn, 1) := by decide +kernel
abbrev R_J1_canEncode_9a6ad : Room := ({ frames := 0, cells := 0, slots := 0, locals := 0 } : Room)
def f_J1_canEncode_9a6ad (x0 : Int32) : Option (Int32) :=
  if x0 < 0 then (some (0 : Int32)) else (if (255 : Int32) < x0 then (some (0 : Int32)) else (some (1 : Int32)))
set_option maxHeartbeats 4000000 in
set_option maxRecDepth 100000 in
theorem c_J1_canEncode_9a6ad (l : Launch) (D : Dx) (x0 : Int32) (q : Int32) (hF : f_J1_canEncode_9a6ad x0 = some q) (sz : Nat) : Met l yJ1_canEncode_9a6ad (ws_ yJ1_canEncode_9a6ad cJ1_canEncode_9a6ad 1 (some .boolean)) R_J1_canEncode_9a6ad (PC D ([]) [.int x0] ([]) sz) (QI D (va_A ([]) sz) ([]) q) 0 0 (va_A ([]) sz) := by
  refine Met.ofW (cc := cJ1_canEncode_9a6ad) (maxL := 1) (ret := (some .boolean)) (by decide) rfl ?_
  intro p e s m args below meth c s₁ B hml hv
  obtain ⟨rfl, hsz, hP, hK, hD, hN⟩ := hv
  subst hsz
  have C : Cx p s m _ meth c cJ1_canEncode_9a6ad (some .boolean) 1 RJ1 lw_all := Cx_of B hml
  have X := Hx_start hP hK hD hN
  obtain ⟨hx, hb, hr, -, hown, hts, hlk⟩ := id C
  generalize va_A ([]) s.heap.size = A at X ⊢
  have hl := lv_entry ([.int x0]) (n := 1) (Nat.le_of_ble_eq_true rfl)
  rw [lg_entry_eq]
  generalize (lg_sl ([.int x0]) ++ List.replicate (1 - (lg_sl ([.int x0])).length) Slot.unset).toArray = ls at hl ⊢
  have hl : lv_has ls 1 [(0, .int x0)] := hl
  unfold f_J1_canEncode_9a6ad at hF
  refine lv_iload_n hx hb dJ1_canEncode_9a6ad_0 rfl (lv_at hl 0 rfl) ?_
  refine lv_if_lt (tgt := 15) hx hb dJ1_canEncode_9a6ad_1 (by decide) (fun c => ?_) (fun c => ?_)
  · replace hF := iT c hF
    refine lv_iconst (v := (0 : Int32)) hx hb dJ1_canEncode_9a6ad_15 (by decide) ?_
    have hq := Option.some.inj hF
    subst hq
    exact rt_z (v := (0 : Int32)) C X (by decide) dJ1_canEncode_9a6ad_16
  · replace hF := iF c hF
    refine lv_iload_n hx hb dJ1_canEncode_9a6ad_4 rfl (lv_at hl 0 rfl) ?_
    refine lv_sipush (v := (255 : Int32)) hx hb dJ1_canEncode_9a6ad_5 (by decide) ?_
    refine lv_icmp_gt (tgt := 15) hx hb dJ1_canEncode_9a6ad_8 (by decide) (fun c => ?_) (fun c => ?_)
    · replace hF := iT c hF
      refine lv_iconst (v := (0 : Int32)) hx hb dJ1_canEncode_9a6ad_15 (by decide) ?_
      have hq := Option.some.inj hF
      subst hq
      exact rt_z (v := (0 : Int32)) C X (by decide) dJ1_canEncode_9a6ad_16
    · replace hF := iF c hF
      refine lv_iconst (v := (1 : Int32)) hx hb dJ1_canEncode_9a6ad_11 (by decide) ?_
      refine lv_goto (tgt := 16) hx hb dJ1_canEncode_9a6ad_12 (by decide) ?_
      have hq := Option.some.inj hF
      subst hq
      exact rt_z (v := (1 : Int32)) C X (by decide) dJ1_canEncode_9a6ad_16

/-! ### J1_indexOfChar_4cfef__S1 -/
theorem dJ1_indexOfChar_4cfef_0 : decode cJ1_indexOfChar_4cfef 0 = .ok (.iload_n 1, 1) := by decide +kernel
theorem dJ1_indexOfChar_4cfef_1 : decode cJ1_indexOfChar_4cfef 1 = .ok (.i2b, 1) := by decide +kernel
theorem dJ1_indexOfChar_4cfef_2 : decode cJ1_indexOfChar_4cfef 2 = .ok (.istore 4, 2) := by decide +kernel
theorem dJ1_indexOfChar_4cfef_4 : decode cJ1_indexOfChar_4cfef 4 = .ok (.iload_n 2, 1) := by decide +kernel
theorem dJ1_indexOfChar_4cfef_5 : decode cJ1_indexOfChar_4cfef 5 = .ok (.istore 5, 2) := by decide +kernel
theorem dJ1_indexOfChar_4cfef_7 : decode cJ1_indexOfChar_4cfef 7 = .ok (.iload 5, 2) := by decide +kernel
theorem dJ1_indexOfChar_4cfef_9 : decode cJ1_indexOfChar_4cfef 9 = .ok (.iload_n 3, 1) := by decide +kernel
theorem dJ1_indexOfChar_4cfef_10 : decode cJ1_indexOfChar_4cfef 10 = .ok (.if_icmp .ge 21, 3) := by decide +kernel
theorem dJ1_indexOfChar_4cfef_13 : decode cJ1_indexOfChar_4cfef 13 = .ok (.aload_n 0, 1) := by decide +kernel
theorem dJ1_indexOfChar_4cfef_14 : decode cJ1_indexOfChar_4cfef 14 = .ok (.iload 5, 2) := by decide +kernel
theorem dJ1_indexOfChar_4cfef_16 : decode cJ1_indexOfChar_4cfef 16 = .ok (.baload, 1) := by decide +kernel
theorem dJ1_indexOfChar_4cfef_17 : decode cJ1_indexOfChar_4cfef 17 = .ok (.iload 4, 2) := by decide +kernel
theorem dJ1_indexOfChar_4cfef_19 : decode cJ1_indexOfChar_4cfef 19 = .ok (.if_icmp .ne 6, 3) := by decide +kernel
theorem dJ1_indexOfChar_4cfef_22 : decode cJ1_indexOfChar_4cfef 22 = .ok (.iload 5, 2) := by decide +kernel
theorem dJ1_indexOfChar_4cfef_24 : decode cJ1_indexOfChar_4cfef 24 = .ok (.ireturn, 1) := by decide +kernel
theorem dJ1_indexOfChar_4cfef_25 : decode cJ1_indexOfChar_4cfef 25 = .ok (.iinc 5 1, 3) := by decide +kernel
theorem dJ1_indexOfChar_4cfef_28 : decode cJ1_indexOfChar_4cfef 28 = .ok (.goto (-21), 3) := by decide +kernel
theorem dJ1_indexOfChar_4cfef_31 : decode cJ1_indexOfChar_4cfef 31 = .ok (.iconst (-1), 1) := by decide +kernel
theorem dJ1_indexOfChar_4cfef_32 : decode cJ1_indexOfChar_4cfef 32 = .ok (.ireturn, 1) := by decide +kernel
abbrev R_J1_indexOfChar_4cfef__S1 : Room := ({ frames := 0, cells := 0, slots := 0, locals := 0 } : Room)
def h_J1_indexOfChar_4cfef__S1_7 (n : Nat) (rec : (Int32 → Int32 → Int32 → Option (Int32))) (v3 : Int32) (v4 : Int32) (v5 : Int32) : Option (Int32) :=
  if v3 ≤ v5 then (some (-1 : Int32)) else (grd (inB v5 17) (if (signsB.getD v5.toNatClampNeg 0) = v4 then (some v5) else (rec v3 v4 (v5 + (1 : Int32)))))
def L_J1_indexOfChar_4cfef__S1 (n : Nat) : Nat → (Int32 → Int32 → Int32 → Option (Int32))
  | 0 => ((fun _ _ _ => none))
  | k + 1 => (h_J1_indexOfChar_4cfef__S1_7 n (L_J1_indexOfChar_4cfef__S1 n k))
def f_J1_indexOfChar_4cfef__S1 (n : Nat) (x1 : Int32) (x2 : Int32) (x3 : Int32) : Option (Int32) :=
  (L_J1_indexOfChar_4cfef__S1 n n) x3 x1.toInt8.toInt32 x2
def S_J1_indexOfChar_4cfef__S1_7 (l : Launch) (D : Dx) (fn : Int32 → Int32 → Int32 → Option (Int32)) : Prop :=
  ∀ {p : Program} {e : Env} {s : State} {m : MethodId} {args : Array Value} {below : List Frame} {meth : Method} {c : Code} {H : Heap} {locs : List Loc} {A : Nat → Prop} {ls : Array Slot} {v3 : Int32} {v4 : Int32} {v5 : Int32} {q : Int32}, Cx p s m args meth c cJ1_indexOfChar_4cfef (some .int) 6 RJ1 lw_all → Hx D ([]) A s H locs ([]) → lv_has ls 6 [(0, .ref (D.2.2.2 1)), (3, .int v3), (4, .int v4), (5, .int v5)] → fn v3 v4 v5 = some q → W p l e R_J1_indexOfChar_4cfef__S1 s m args below meth c H locs 0 0 (MQ below (QI D A ([]) q) args s 0 0 A) (F0 m 7 ls [])
def SH_J1_indexOfChar_4cfef__S1 (l : Launch) (D : Dx) (rec : (Int32 → Int32 → Int32 → Option (Int32))) : Prop := S_J1_indexOfChar_4cfef__S1_7 l D rec
set_option maxHeartbeats 4000000 in
set_option maxRecDepth 100000 in
theorem k_J1_indexOfChar_4cfef__S1_7 (l : Launch) (D : Dx) (n : Nat) (rec : (Int32 → Int32 → Int32 → Option (Int32))) (IH : SH_J1_indexOfChar_4cfef__S1 l D rec) : S_J1_indexOfChar_4cfef__S1_7 l D (h_J1_indexOfChar_4cfef__S1_7 n rec) := by
  intro p e s m args below meth c H locs A ls v3 v4 v5 q C X hl hF
  obtain ⟨hx, hb, hr, hml, hown, hts, hlk⟩ := id C
  unfold h_J1_indexOfChar_4cfef__S1_7 at hF
  refine lv_iload hx hb dJ1_indexOfChar_4cfef_7 (lv_at hl 3 rfl) ?_
  refine lv_iload_n hx hb dJ1_indexOfChar_4cfef_9 rfl (lv_at hl 1 rfl) ?_
  refine lv_icmp_ge (tgt := 31) hx hb dJ1_indexOfChar_4cfef_10 (by decide) (fun c => ?_) (fun c => ?_)
  · replace hF := iT c hF
    refine lv_iconst (v := (-1 : Int32)) hx hb dJ1_indexOfChar_4cfef_31 (by decide) ?_
    have hq := Option.some.inj hF
    subst hq
    exact rt_i C X dJ1_indexOfChar_4cfef_32
  · replace hF := iF c hF
    refine lv_aload_n hx hb dJ1_indexOfChar_4cfef_13 rfl (lv_at hl 0 rfl) ?_
    refine lv_iload hx hb dJ1_indexOfChar_4cfef_14 (lv_at hl 3 rfl) ?_
    obtain ⟨h_1, hF⟩ := grd_some hF
    refine va_tb (v := .int (signsB.getD v5.toNatClampNeg 0)) hx hb (X.2.2.2.2.2.2.2.2.1.1 1 (by decide)).2.2.2 X.2.2.2.1 (inB_ok h_1) rfl dJ1_indexOfChar_4cfef_16 ?_
    refine lv_iload hx hb dJ1_indexOfChar_4cfef_17 (lv_at hl 2 rfl) ?_
    refine lv_icmp_ne (tgt := 25) hx hb dJ1_indexOfChar_4cfef_19 (by decide) (fun c => ?_) (fun c => ?_)
    · replace hF := iF c hF
      refine lv_iinc (v := v5 + (1 : Int32)) (lv' := [(5, .int (v5 + (1 : Int32))), (0, .ref (D.2.2.2 1)), (3, .int v3), (4, .int v4)]) hx hb dJ1_indexOfChar_4cfef_25 hl (k := 3) rfl rfl (by decide) rfl (fun ls hl => ?_)
      refine lv_goto (tgt := 7) hx hb dJ1_indexOfChar_4cfef_28 (by decide) ?_
      exact IH C X (lv_sub hl [1, 2, 3, 0] rfl) hF
    · replace hF := iT c hF
      refine lv_iload hx hb dJ1_indexOfChar_4cfef_22 (lv_at hl 3 rfl) ?_
      have hq := Option.some.inj hF
      subst hq
      exact rt_i C X dJ1_indexOfChar_4cfef_24
theorem kL_J1_indexOfChar_4cfef__S1 (l : Launch) (D : Dx) (n : Nat) : ∀ k, SH_J1_indexOfChar_4cfef__S1 l D (L_J1_indexOfChar_4cfef__S1 n k)
  | 0 => fun _ _ _ h => by cases h
  | k + 1 => k_J1_indexOfChar_4cfef__S1_7 l D n _ (kL_J1_indexOfChar_4cfef__S1 l D n k)
set_option maxHeartbeats 4000000 in
set_option maxRecDepth 100000 in
theorem c_J1_indexOfChar_4cfef__S1 (l : Launch) (D : Dx) (n : Nat) (x1 : Int32) (x2 : Int32) (x3 : Int32) (q : Int32) (hF : f_J1_indexOfChar_4cfef__S1 n x1 x2 x3 = some q) (sz : Nat) : Met l yJ1_indexOfChar_4cfef (ws_ yJ1_indexOfChar_4cfef cJ1_indexOfChar_4cfef 6 (some .int)) R_J1_indexOfChar_4cfef__S1 (PC D ([]) [.ref (D.2.2.2 1), .int x1, .int x2, .int x3] ([]) sz) (QI D (va_A ([]) sz) ([]) q) 0 0 (va_A ([]) sz) := by
  refine Met.ofW (cc := cJ1_indexOfChar_4cfef) (maxL := 6) (ret := (some .int)) (by decide) rfl ?_
  intro p e s m args below meth c s₁ B hml hv
  obtain ⟨rfl, hsz, hP, hK, hD, hN⟩ := hv
  subst hsz
  have C : Cx p s m _ meth c cJ1_indexOfChar_4cfef (some .int) 6 RJ1 lw_all := Cx_of B hml
  have X := Hx_start hP hK hD hN
  obtain ⟨hx, hb, hr, -, hown, hts, hlk⟩ := id C
  generalize va_A ([]) s.heap.size = A at X ⊢
  have hl := lv_entry ([.ref (D.2.2.2 1), .int x1, .int x2, .int x3]) (n := 6) (Nat.le_of_ble_eq_true rfl)
  rw [lg_entry_eq]
  generalize (lg_sl ([.ref (D.2.2.2 1), .int x1, .int x2, .int x3]) ++ List.replicate (6 - (lg_sl ([.ref (D.2.2.2 1), .int x1, .int x2, .int x3])).length) Slot.unset).toArray = ls at hl ⊢
  have hl : lv_has ls 6 [(0, .ref (D.2.2.2 1)), (1, .int x1), (2, .int x2), (3, .int x3)] := hl
  unfold f_J1_indexOfChar_4cfef__S1 at hF
  refine lv_iload_n hx hb dJ1_indexOfChar_4cfef_0 rfl (lv_at hl 1 rfl) ?_
  refine lv_i2b hx hb dJ1_indexOfChar_4cfef_1 rfl ?_
  refine lv_istore (lv' := [(4, .int x1.toInt8.toInt32), (0, .ref (D.2.2.2 1)), (1, .int x1), (2, .int x2), (3, .int x3)]) hx hb dJ1_indexOfChar_4cfef_2 hl (by decide) rfl (fun ls hl => ?_)
  refine lv_iload_n hx hb dJ1_indexOfChar_4cfef_4 rfl (lv_at hl 3 rfl) ?_
  refine lv_istore (lv' := [(5, .int x2), (4, .int x1.toInt8.toInt32), (0, .ref (D.2.2.2 1)), (1, .int x1), (2, .int x2), (3, .int x3)]) hx hb dJ1_indexOfChar_4cfef_5 hl (by decide) rfl (fun ls hl => ?_)
  exact (kL_J1_indexOfChar_4cfef__S1 l D n n) C X (lv_sub hl [2, 5, 1, 0] rfl) hF

/-! ### J1_indexOf_4cfef__S1 -/
theorem dJ1_indexOf_4cfef_0 : decode cJ1_indexOf_4cfef 0 = .ok (.iload_n 1, 1) := by decide +kernel
theorem dJ1_indexOf_4cfef_1 : decode cJ1_indexOf_4cfef 1 = .ok (.invokestatic 88, 3) := by decide +kernel
theorem dJ1_indexOf_4cfef_4 : decode cJ1_indexOf_4cfef 4 = .ok (.ifCond .ne 5, 3) := by decide +kernel
theorem dJ1_indexOf_4cfef_7 : decode cJ1_indexOf_4cfef 7 = .ok (.iconst (-1), 1) := by decide +kernel
theorem dJ1_indexOf_4cfef_8 : decode cJ1_indexOf_4cfef 8 = .ok (.ireturn, 1) := by decide +kernel
theorem dJ1_indexOf_4cfef_9 : decode cJ1_indexOf_4cfef 9 = .ok (.iload_n 2, 1) := by decide +kernel
theorem dJ1_indexOf_4cfef_10 : decode cJ1_indexOf_4cfef 10 = .ok (.iconst 0, 1) := by decide +kernel
theorem dJ1_indexOf_4cfef_11 : decode cJ1_indexOf_4cfef 11 = .ok (.invokestatic 92, 3) := by decide +kernel
theorem dJ1_indexOf_4cfef_14 : decode cJ1_indexOf_4cfef 14 = .ok (.istore_n 2, 1) := by decide +kernel
theorem dJ1_indexOf_4cfef_15 : decode cJ1_indexOf_4cfef 15 = .ok (.iload_n 3, 1) := by decide +kernel
theorem dJ1_indexOf_4cfef_16 : decode cJ1_indexOf_4cfef 16 = .ok (.aload_n 0, 1) := by decide +kernel
theorem dJ1_indexOf_4cfef_17 : decode cJ1_indexOf_4cfef 17 = .ok (.arraylength, 1) := by decide +kernel
theorem dJ1_indexOf_4cfef_18 : decode cJ1_indexOf_4cfef 18 = .ok (.invokestatic 38, 3) := by decide +kernel
theorem dJ1_indexOf_4cfef_21 : decode cJ1_indexOf_4cfef 21 = .ok (.istore_n 3, 1) := by decide +kernel
theorem dJ1_indexOf_4cfef_22 : decode cJ1_indexOf_4cfef 22 = .ok (.iload_n 2, 1) := by decide +kernel
theorem dJ1_indexOf_4cfef_23 : decode cJ1_indexOf_4cfef 23 = .ok (.iload_n 3, 1) := by decide +kernel
theorem dJ1_indexOf_4cfef_24 : decode cJ1_indexOf_4cfef 24 = .ok (.if_icmp .lt 5, 3) := by decide +kernel
theorem dJ1_indexOf_4cfef_27 : decode cJ1_indexOf_4cfef 27 = .ok (.iconst (-1), 1) := by decide +kernel
theorem dJ1_indexOf_4cfef_28 : decode cJ1_indexOf_4cfef 28 = .ok (.ireturn, 1) := by decide +kernel
theorem dJ1_indexOf_4cfef_29 : decode cJ1_indexOf_4cfef 29 = .ok (.aload_n 0, 1) := by decide +kernel
theorem dJ1_indexOf_4cfef_30 : decode cJ1_indexOf_4cfef 30 = .ok (.iload_n 1, 1) := by decide +kernel
theorem dJ1_indexOf_4cfef_31 : decode cJ1_indexOf_4cfef 31 = .ok (.iload_n 2, 1) := by decide +kernel
theorem dJ1_indexOf_4cfef_32 : decode cJ1_indexOf_4cfef 32 = .ok (.iload_n 3, 1) := by decide +kernel
theorem dJ1_indexOf_4cfef_33 : decode cJ1_indexOf_4cfef 33 = .ok (.invokestatic 95, 3) := by decide +kernel
theorem dJ1_indexOf_4cfef_36 : decode cJ1_indexOf_4cfef 36 = .ok (.ireturn, 1) := by decide +kernel
abbrev R_J1_indexOf_4cfef__S1 : Room := ({ frames := 1, cells := 0, slots := 0, locals := 64 } : Room)
def f_J1_indexOf_4cfef__S1 (n : Nat) (x1 : Int32) (x2 : Int32) (x3 : Int32) : Option (Int32) :=
  bnd (f_J1_canEncode_9a6ad x1) (fun q_1 => if q_1 = 0 then (some (-1 : Int32)) else (if (if x2 < (0 : Int32) then (0 : Int32) else x2) < (if (17 : Int32) < x3 then (17 : Int32) else x3) then (bnd (f_J1_indexOfChar_4cfef__S1 n x1 (if x2 < (0 : Int32) then (0 : Int32) else x2) (if (17 : Int32) < x3 then (17 : Int32) else x3)) (fun q_3 => some q_3)) else (some (-1 : Int32))))
set_option maxHeartbeats 4000000 in
set_option maxRecDepth 100000 in
theorem c_J1_indexOf_4cfef__S1 (l : Launch) (D : Dx) (n : Nat) (x1 : Int32) (x2 : Int32) (x3 : Int32) (q : Int32) (hF : f_J1_indexOf_4cfef__S1 n x1 x2 x3 = some q) (sz : Nat) : Met l yJ1_indexOf_4cfef (ws_ yJ1_indexOf_4cfef cJ1_indexOf_4cfef 4 (some .int)) R_J1_indexOf_4cfef__S1 (PC D ([]) [.ref (D.2.2.2 1), .int x1, .int x2, .int x3] ([]) sz) (QI D (va_A ([]) sz) ([]) q) 0 0 (va_A ([]) sz) := by
  refine Met.ofW (cc := cJ1_indexOf_4cfef) (maxL := 4) (ret := (some .int)) (by decide) rfl ?_
  intro p e s m args below meth c s₁ B hml hv
  obtain ⟨rfl, hsz, hP, hK, hD, hN⟩ := hv
  subst hsz
  have C : Cx p s m _ meth c cJ1_indexOf_4cfef (some .int) 4 RJ1 lw_all := Cx_of B hml
  have X := Hx_start hP hK hD hN
  obtain ⟨hx, hb, hr, -, hown, hts, hlk⟩ := id C
  generalize va_A ([]) s.heap.size = A at X ⊢
  have hl := lv_entry ([.ref (D.2.2.2 1), .int x1, .int x2, .int x3]) (n := 4) (Nat.le_of_ble_eq_true rfl)
  rw [lg_entry_eq]
  generalize (lg_sl ([.ref (D.2.2.2 1), .int x1, .int x2, .int x3]) ++ List.replicate (4 - (lg_sl ([.ref (D.2.2.2 1), .int x1, .int x2, .int x3])).length) Slot.unset).toArray = ls at hl ⊢
  have hl : lv_has ls 4 [(0, .ref (D.2.2.2 1)), (1, .int x1), (2, .int x2), (3, .int x3)] := hl
  unfold f_J1_indexOf_4cfef__S1 at hF
  refine lv_iload_n hx hb dJ1_indexOf_4cfef_0 rfl (lv_at hl 1 rfl) ?_
  obtain ⟨q_1, hc_2, hF⟩ := bnd_some hF
  refine cS_i (As := [.int x1]) (rest := []) C X (c_J1_canEncode_9a6ad l D  x1 q_1 hc_2 _) (va_cwS 1 hts (good_S q4_9 q4_10 q1_16 q4_11) rfl rfl rfl (by decide +kernel) ⟨Nat.le_of_ble_eq_true rfl, Nat.le_of_ble_eq_true rfl⟩) (eK X) eP (eD (A := A)) (eF X) hl.1 rfl rfl (Nat.le_of_ble_eq_true rfl) dJ1_indexOf_4cfef_1 ⟨Nat.le_of_ble_eq_true rfl, Nat.le_of_ble_eq_true rfl⟩ (fun t H1 locs1 ht hB hk hS => ?_)
  have X := Hx_after_none X hk hS
  clear hk hS ht hB
  generalize H1 = H at X ⊢
  generalize locs1 = locs at X ⊢
  refine lv_if_ne (tgt := 9) hx hb dJ1_indexOf_4cfef_4 (by decide) (fun c => ?_) (fun c => ?_)
  · replace hF := iF c hF
    refine lv_iload_n hx hb dJ1_indexOf_4cfef_9 rfl (lv_at hl 2 rfl) ?_
    refine lv_iconst (v := (0 : Int32)) hx hb dJ1_indexOf_4cfef_10 (by decide) ?_
    refine va_mmax hx hb (by rw [hml]; exact hl.1.symm) hown (hts _ q4_12) (hts _ q4_13) (hts _ q1_14) (hts _ q4_14) (Nat.le_of_ble_eq_true rfl) (Nat.le_of_ble_eq_true rfl) (Nat.le_of_ble_eq_true rfl) (Nat.le_of_ble_eq_true rfl) dJ1_indexOf_4cfef_11 ?_
    refine lv_istore_n (lv' := [(2, .int (if x2 < (0 : Int32) then (0 : Int32) else x2)), (0, .ref (D.2.2.2 1)), (1, .int x1), (3, .int x3)]) hx hb dJ1_indexOf_4cfef_14 rfl hl (by decide) rfl (fun ls hl => ?_)
    refine lv_iload_n hx hb dJ1_indexOf_4cfef_15 rfl (lv_at hl 3 rfl) ?_
    refine lv_aload_n hx hb dJ1_indexOf_4cfef_16 rfl (lv_at hl 1 rfl) ?_
    refine va_tlen (v := (17 : Int32)) hx hb (X.2.2.2.2.2.2.2.2.1.1 1 (by decide)).2.2.2 X.2.2.2.1 rfl dJ1_indexOf_4cfef_17 ?_
    refine va_mmin hx hb (by rw [hml]; exact hl.1.symm) hown (hts _ q4_15) (hts _ q3_128) (hts _ q1_14) (hts _ q3_129) (Nat.le_of_ble_eq_true rfl) (Nat.le_of_ble_eq_true rfl) (Nat.le_of_ble_eq_true rfl) (Nat.le_of_ble_eq_true rfl) dJ1_indexOf_4cfef_18 ?_
    refine lv_istore_n (lv' := [(3, .int (if (17 : Int32) < x3 then (17 : Int32) else x3)), (2, .int (if x2 < (0 : Int32) then (0 : Int32) else x2)), (0, .ref (D.2.2.2 1)), (1, .int x1)]) hx hb dJ1_indexOf_4cfef_21 rfl hl (by decide) rfl (fun ls hl => ?_)
    refine lv_iload_n hx hb dJ1_indexOf_4cfef_22 rfl (lv_at hl 1 rfl) ?_
    refine lv_iload_n hx hb dJ1_indexOf_4cfef_23 rfl (lv_at hl 0 rfl) ?_
    refine lv_icmp_lt (tgt := 29) hx hb dJ1_indexOf_4cfef_24 (by decide) (fun c => ?_) (fun c => ?_)
    · replace hF := iT c hF
      refine lv_aload_n hx hb dJ1_indexOf_4cfef_29 rfl (lv_at hl 2 rfl) ?_
      refine lv_iload_n hx hb dJ1_indexOf_4cfef_30 rfl (lv_at hl 3 rfl) ?_
      refine lv_iload_n hx hb dJ1_indexOf_4cfef_31 rfl (lv_at hl 1 rfl) ?_
      refine lv_iload_n hx hb dJ1_indexOf_4cfef_32 rfl (lv_at hl 0 rfl) ?_
      obtain ⟨q_3, hc_4, hF⟩ := bnd_some hF
      refine cS_i (As := [.ref (D.2.2.2 1), .int x1, .int (if x2 < (0 : Int32) then (0 : Int32) else x2), .int (if (17 : Int32) < x3 then (17 : Int32) else x3)]) (rest := []) C X (c_J1_indexOfChar_4cfef__S1 l D  n x1 (if x2 < (0 : Int32) then (0 : Int32) else x2) (if (17 : Int32) < x3 then (17 : Int32) else x3) q_3 hc_4 _) (va_cwS 4 hts (good_S q4_16 q4_17 q1_16 q4_18) rfl rfl rfl (by decide +kernel) ⟨Nat.le_of_ble_eq_true rfl, Nat.le_of_ble_eq_true rfl⟩) (eK X) eP (eD (A := A)) (eF X) hl.1 rfl rfl (Nat.le_of_ble_eq_true rfl) dJ1_indexOf_4cfef_33 ⟨Nat.le_of_ble_eq_true rfl, Nat.le_of_ble_eq_true rfl⟩ (fun t H1 locs1 ht hB hk hS => ?_)
      have X := Hx_after_none X hk hS
      clear hk hS ht hB
      generalize H1 = H at X ⊢
      generalize locs1 = locs at X ⊢
      have hq := Option.some.inj hF
      subst hq
      exact rt_i C X dJ1_indexOf_4cfef_36
    · replace hF := iF c hF
      refine lv_iconst (v := (-1 : Int32)) hx hb dJ1_indexOf_4cfef_27 (by decide) ?_
      have hq := Option.some.inj hF
      subst hq
      exact rt_i C X dJ1_indexOf_4cfef_28
  · replace hF := iT c hF
    refine lv_iconst (v := (-1 : Int32)) hx hb dJ1_indexOf_4cfef_7 (by decide) ?_
    have hq := Option.some.inj hF
    subst hq
    exact rt_i C X dJ1_indexOf_4cfef_8

/-! ### J0_coder_7d493__S1 -/
theorem dJ0_coder_7d493_0 : decode cJ0_coder_7d493 0 = .ok (.getstatic 38, 3) := by decide +kernel
theorem dJ0_coder_7d493_3 : decode cJ0_coder_7d493 3 = .ok (.ifCond .eq 10, 3) := by decide +kernel
theorem dJ0_coder_7d493_6 : decode cJ0_coder_7d493 6 = .ok (.aload_n 0, 1) := by decide +kernel
theorem dJ0_coder_7d493_7 : decode cJ0_coder_7d493 7 = .ok (.getfield 15, 3) := by decide +kernel
theorem dJ0_coder_7d493_10 : decode cJ0_coder_7d493 10 = .ok (.goto 4, 3) := by decide +kernel
theorem dJ0_coder_7d493_13 : decode cJ0_coder_7d493 13 = .ok (.iconst 1, 1) := by decide +kernel
theorem dJ0_coder_7d493_14 : decode cJ0_coder_7d493 14 = .ok (.ireturn, 1) := by decide +kernel
abbrev R_J0_coder_7d493__S1 : Room := ({ frames := 0, cells := 0, slots := 0, locals := 0 } : Room)
def f_J0_coder_7d493__S1 : Option (Int32) :=
  if (1 : Int32) = 0 then (some (1 : Int32)) else (some (0 : Int32))
set_option maxHeartbeats 4000000 in
set_option maxRecDepth 100000 in
theorem c_J0_coder_7d493__S1 (l : Launch) (D : Dx) (q : Int32) (hF : f_J0_coder_7d493__S1 = some q) (sz : Nat) : Met l yJ0_coder_7d493 (ws_ yJ0_coder_7d493 cJ0_coder_7d493 1 (some .byte)) R_J0_coder_7d493__S1 (PC D ([]) [.ref (D.2.2.1 1)] ([]) sz) (QI D (va_A ([]) sz) ([]) q) 0 0 (va_A ([]) sz) := by
  refine Met.ofW (cc := cJ0_coder_7d493) (maxL := 1) (ret := (some .byte)) (by decide) rfl ?_
  intro p e s m args below meth c s₁ B hml hv
  obtain ⟨rfl, hsz, hP, hK, hD, hN⟩ := hv
  subst hsz
  have C : Cx p s m _ meth c cJ0_coder_7d493 (some .byte) 1 RJ0 lw_all := Cx_of B hml
  have X := Hx_start hP hK hD hN
  obtain ⟨hx, hb, hr, -, hown, hts, hlk⟩ := id C
  generalize va_A ([]) s.heap.size = A at X ⊢
  have hl := lv_entry ([.ref (D.2.2.1 1)]) (n := 1) (Nat.le_of_ble_eq_true rfl)
  rw [lg_entry_eq]
  generalize (lg_sl ([.ref (D.2.2.1 1)]) ++ List.replicate (1 - (lg_sl ([.ref (D.2.2.1 1)])).length) Slot.unset).toArray = ls at hl ⊢
  have hl : lv_has ls 1 [(0, .ref (D.2.2.1 1))] := hl
  unfold f_J0_coder_7d493__S1 at hF
  refine va_gets hx hb X.2.2.2.2.2.2.2.2.2.2.2.1 X.2.2.2.1 hown (hts _ q3_164) (fun _ h9 => h9) dJ0_coder_7d493_0 ?_
  refine lv_if_eq (tgt := 13) hx hb dJ0_coder_7d493_3 (by decide) (fun c => ?_) (fun c => ?_)
  · replace hF := iT c hF
    refine lv_iconst (v := (1 : Int32)) hx hb dJ0_coder_7d493_13 (by decide) ?_
    have hq := Option.some.inj hF
    subst hq
    exact rt_z (v := (1 : Int32)) C X (by decide) dJ0_coder_7d493_14
  · replace hF := iF c hF
    refine lv_aload_n hx hb dJ0_coder_7d493_6 rfl (lv_at hl 0 rfl) ?_
    refine vk_getf hx hb (X.2.2.2.2.2.2.2.2.1.1 1 (by decide)).2.1 X.2.2.2.1 hown (hts _ q10_52) (fun _ h9 => h9) dJ0_coder_7d493_7 ?_
    refine lv_goto (tgt := 14) hx hb dJ0_coder_7d493_10 (by decide) ?_
    have hq := Option.some.inj hF
    subst hq
    exact rt_z (v := (0 : Int32)) C X (by decide) dJ0_coder_7d493_14

/-! ### J0_length_8abf5__S1 -/
theorem dJ0_length_8abf5_0 : decode cJ0_length_8abf5 0 = .ok (.aload_n 0, 1) := by decide +kernel
theorem dJ0_length_8abf5_1 : decode cJ0_length_8abf5 1 = .ok (.getfield 9, 3) := by decide +kernel
theorem dJ0_length_8abf5_4 : decode cJ0_length_8abf5 4 = .ok (.arraylength, 1) := by decide +kernel
theorem dJ0_length_8abf5_5 : decode cJ0_length_8abf5 5 = .ok (.aload_n 0, 1) := by decide +kernel
theorem dJ0_length_8abf5_6 : decode cJ0_length_8abf5 6 = .ok (.invokevirtual 335, 3) := by decide +kernel
theorem dJ0_length_8abf5_9 : decode cJ0_length_8abf5 9 = .ok (.ishr, 1) := by decide +kernel
theorem dJ0_length_8abf5_10 : decode cJ0_length_8abf5 10 = .ok (.ireturn, 1) := by decide +kernel
abbrev R_J0_length_8abf5__S1 : Room := ({ frames := 1, cells := 0, slots := 0, locals := 20 } : Room)
def f_J0_length_8abf5__S1 : Option (Int32) :=
  bnd (f_J0_coder_7d493__S1) (fun q_1 => some ((17 : Int32) >>> (q_1 &&& 31)))
set_option maxHeartbeats 4000000 in
set_option maxRecDepth 100000 in
theorem c_J0_length_8abf5__S1 (l : Launch) (D : Dx) (q : Int32) (hF : f_J0_length_8abf5__S1 = some q) (sz : Nat) : Met l yJ0_length_8abf5 (ws_ yJ0_length_8abf5 cJ0_length_8abf5 1 (some .int)) R_J0_length_8abf5__S1 (PC D ([]) [.ref (D.2.2.1 1)] ([]) sz) (QI D (va_A ([]) sz) ([]) q) 0 0 (va_A ([]) sz) := by
  refine Met.ofW (cc := cJ0_length_8abf5) (maxL := 1) (ret := (some .int)) (by decide) rfl ?_
  intro p e s m args below meth c s₁ B hml hv
  obtain ⟨rfl, hsz, hP, hK, hD, hN⟩ := hv
  subst hsz
  have C : Cx p s m _ meth c cJ0_length_8abf5 (some .int) 1 RJ0 lw_all := Cx_of B hml
  have X := Hx_start hP hK hD hN
  obtain ⟨hx, hb, hr, -, hown, hts, hlk⟩ := id C
  generalize va_A ([]) s.heap.size = A at X ⊢
  have hl := lv_entry ([.ref (D.2.2.1 1)]) (n := 1) (Nat.le_of_ble_eq_true rfl)
  rw [lg_entry_eq]
  generalize (lg_sl ([.ref (D.2.2.1 1)]) ++ List.replicate (1 - (lg_sl ([.ref (D.2.2.1 1)])).length) Slot.unset).toArray = ls at hl ⊢
  have hl : lv_has ls 1 [(0, .ref (D.2.2.1 1))] := hl
  unfold f_J0_length_8abf5__S1 at hF
  refine lv_aload_n hx hb dJ0_length_8abf5_0 rfl (lv_at hl 0 rfl) ?_
  refine vk_getf hx hb (X.2.2.2.2.2.2.2.2.1.1 1 (by decide)).2.2.1 X.2.2.2.1 hown (hts _ q10_53) (fun _ h9 => h9) dJ0_length_8abf5_1 ?_
  refine va_tlen (v := (17 : Int32)) hx hb (X.2.2.2.2.2.2.2.2.1.1 1 (by decide)).2.2.2 X.2.2.2.1 rfl dJ0_length_8abf5_4 ?_
  refine lv_aload_n hx hb dJ0_length_8abf5_5 rfl (lv_at hl 0 rfl) ?_
  obtain ⟨q_1, hc_2, hF⟩ := bnd_some hF
  refine cV_i (As := []) (rest := [.int (17 : Int32)]) C X (c_J0_coder_7d493__S1 l D   q_1 hc_2 _) (cwV 0 hts (good_V q4_2 q4_3 q4_4 q1_15 q4_5) rfl rfl rfl (by decide +kernel) ⟨Nat.le_of_ble_eq_true rfl, Nat.le_of_ble_eq_true rfl⟩) (vk_recv (i := 1) X.2.2.2.2.2.2.2.2.1 (by decide) X.2.2.2.1) (eK X) eP (eD (A := A)) (eF X) hl.1 rfl rfl (Nat.le_of_ble_eq_true rfl) dJ0_length_8abf5_6 ⟨Nat.le_of_ble_eq_true rfl, Nat.le_of_ble_eq_true rfl⟩ (fun t H1 locs1 ht hB hk hS => ?_)
  have X := Hx_after_none X hk hS
  clear hk hS ht hB
  generalize H1 = H at X ⊢
  generalize locs1 = locs at X ⊢
  refine lv_ishr hx hb dJ0_length_8abf5_9 ?_
  have hq := Option.some.inj hF
  subst hq
  exact rt_i C X dJ0_length_8abf5_10

/-! ### J0_indexOf_7cf53__S1 -/
theorem dJ0_indexOf_7cf53_0 : decode cJ0_indexOf_7cf53 0 = .ok (.aload_n 0, 1) := by decide +kernel
theorem dJ0_indexOf_7cf53_1 : decode cJ0_indexOf_7cf53 1 = .ok (.invokevirtual 492, 3) := by decide +kernel
theorem dJ0_indexOf_7cf53_4 : decode cJ0_indexOf_7cf53 4 = .ok (.ifCond .eq 19, 3) := by decide +kernel
theorem dJ0_indexOf_7cf53_7 : decode cJ0_indexOf_7cf53 7 = .ok (.aload_n 0, 1) := by decide +kernel
theorem dJ0_indexOf_7cf53_8 : decode cJ0_indexOf_7cf53 8 = .ok (.getfield 9, 3) := by decide +kernel
theorem dJ0_indexOf_7cf53_11 : decode cJ0_indexOf_7cf53 11 = .ok (.iload_n 1, 1) := by decide +kernel
theorem dJ0_indexOf_7cf53_12 : decode cJ0_indexOf_7cf53 12 = .ok (.iload_n 2, 1) := by decide +kernel
theorem dJ0_indexOf_7cf53_13 : decode cJ0_indexOf_7cf53 13 = .ok (.aload_n 0, 1) := by decide +kernel
theorem dJ0_indexOf_7cf53_14 : decode cJ0_indexOf_7cf53 14 = .ok (.invokevirtual 505, 3) := by decide +kernel
theorem dJ0_indexOf_7cf53_17 : decode cJ0_indexOf_7cf53 17 = .ok (.invokestatic 637, 3) := by decide +kernel
theorem dJ0_indexOf_7cf53_20 : decode cJ0_indexOf_7cf53 20 = .ok (.goto 16, 3) := by decide +kernel
theorem dJ0_indexOf_7cf53_23 : decode cJ0_indexOf_7cf53 23 = .ok (.aload_n 0, 1) := by decide +kernel
theorem dJ0_indexOf_7cf53_24 : decode cJ0_indexOf_7cf53 24 = .ok (.getfield 9, 3) := by decide +kernel
theorem dJ0_indexOf_7cf53_27 : decode cJ0_indexOf_7cf53 27 = .ok (.iload_n 1, 1) := by decide +kernel
theorem dJ0_indexOf_7cf53_28 : decode cJ0_indexOf_7cf53 28 = .ok (.iload_n 2, 1) := by decide +kernel
theorem dJ0_indexOf_7cf53_29 : decode cJ0_indexOf_7cf53 29 = .ok (.aload_n 0, 1) := by decide +kernel
theorem dJ0_indexOf_7cf53_30 : decode cJ0_indexOf_7cf53 30 = .ok (.invokevirtual 505, 3) := by decide +kernel
theorem dJ0_indexOf_7cf53_33 : decode cJ0_indexOf_7cf53 33 = .ok (.invokestatic 640, 3) := by decide +kernel
theorem dJ0_indexOf_7cf53_36 : decode cJ0_indexOf_7cf53 36 = .ok (.ireturn, 1) := by decide +kernel
abbrev R_J0_indexOf_7cf53__S1 : Room := ({ frames := 2, cells := 0, slots := 0, locals := 87 } : Room)
def f_J0_indexOf_7cf53__S1 (n : Nat) (x0 : Int32) (x1 : Int32) : Option (Int32) :=
  bnd (f_J0_isLatin1_aae02__S1) (fun q_1 => if q_1 = 0 then (none) else (bnd (f_J0_length_8abf5__S1) (fun q_5 => bnd (f_J1_indexOf_4cfef__S1 n x0 x1 q_5) (fun q_7 => some q_7))))
set_option maxHeartbeats 4000000 in
set_option maxRecDepth 100000 in
theorem c_J0_indexOf_7cf53__S1 (l : Launch) (D : Dx) (n : Nat) (x0 : Int32) (x1 : Int32) (q : Int32) (hF : f_J0_indexOf_7cf53__S1 n x0 x1 = some q) (sz : Nat) : Met l yJ0_indexOf_7cf53 (ws_ yJ0_indexOf_7cf53 cJ0_indexOf_7cf53 3 (some .int)) R_J0_indexOf_7cf53__S1 (PC D ([]) [.ref (D.2.2.1 1), .int x0, .int x1] ([]) sz) (QI D (va_A ([]) sz) ([]) q) 0 0 (va_A ([]) sz) := by
  refine Met.ofW (cc := cJ0_indexOf_7cf53) (maxL := 3) (ret := (some .int)) (by decide) rfl ?_
  intro p e s m args below meth c s₁ B hml hv
  obtain ⟨rfl, hsz, hP, hK, hD, hN⟩ := hv
  subst hsz
  have C : Cx p s m _ meth c cJ0_indexOf_7cf53 (some .int) 3 RJ0 lw_all := Cx_of B hml
  have X := Hx_start hP hK hD hN
  obtain ⟨hx, hb, hr, -, hown, hts, hlk⟩ := id C
  generalize va_A ([]) s.heap.size = A at X ⊢
  have hl := lv_entry ([.ref (D.2.2.1 1), .int x0, .int x1]) (n := 3) (Nat.le_of_ble_eq_true rfl)
  rw [lg_entry_eq]
  generalize (lg_sl ([.ref (D.2.2.1 1), .int x0, .int x1]) ++ List.replicate (3 - (lg_sl ([.ref (D.2.2.1 1), .int x0, .int x1])).length) Slot.unset).toArray = ls at hl ⊢
  have hl : lv_has ls 3 [(0, .ref (D.2.2.1 1)), (1, .int x0), (2, .int x1)] := hl
  unfold f_J0_indexOf_7cf53__S1 at hF
  refine lv_aload_n hx hb dJ0_indexOf_7cf53_0 rfl (lv_at hl 0 rfl) ?_
  obtain ⟨q_1, hc_2, hF⟩ := bnd_some hF
  refine cV_i (As := []) (rest := []) C X (c_J0_isLatin1_aae02__S1 l D   q_1 hc_2 _) (cwV 0 hts (good_V q3_160 q3_161 q3_162 q1_15 q3_163) rfl rfl rfl (by decide +kernel) ⟨Nat.le_of_ble_eq_true rfl, Nat.le_of_ble_eq_true rfl⟩) (vk_recv (i := 1) X.2.2.2.2.2.2.2.2.1 (by decide) X.2.2.2.1) (eK X) eP (eD (A := A)) (eF X) hl.1 rfl rfl (Nat.le_of_ble_eq_true rfl) dJ0_indexOf_7cf53_1 ⟨Nat.le_of_ble_eq_true rfl, Nat.le_of_ble_eq_true rfl⟩ (fun t H1 locs1 ht hB hk hS => ?_)
  have X := Hx_after_none X hk hS
  clear hk hS ht hB
  generalize H1 = H at X ⊢
  generalize locs1 = locs at X ⊢
  refine lv_if_eq (tgt := 23) hx hb dJ0_indexOf_7cf53_4 (by decide) (fun c => ?_) (fun c => ?_)
  · replace hF := iT c hF
    cases hF
  · replace hF := iF c hF
    refine lv_aload_n hx hb dJ0_indexOf_7cf53_7 rfl (lv_at hl 0 rfl) ?_
    refine vk_getf hx hb (X.2.2.2.2.2.2.2.2.1.1 1 (by decide)).2.2.1 X.2.2.2.1 hown (hts _ q10_53) (fun _ h9 => h9) dJ0_indexOf_7cf53_8 ?_
    refine lv_iload_n hx hb dJ0_indexOf_7cf53_11 rfl (lv_at hl 1 rfl) ?_
    refine lv_iload_n hx hb dJ0_indexOf_7cf53_12 rfl (lv_at hl 2 rfl) ?_
    refine lv_aload_n hx hb dJ0_indexOf_7cf53_13 rfl (lv_at hl 0 rfl) ?_
    obtain ⟨q_5, hc_6, hF⟩ := bnd_some hF
    refine cV_i (As := []) (rest := [.int x1, .int x0, .ref (D.2.2.2 1)]) C X (c_J0_length_8abf5__S1 l D   q_5 hc_6 _) (cwV 0 hts (good_V q3_238 q3_239 q4_0 q1_15 q4_1) rfl rfl rfl (by decide +kernel) ⟨Nat.le_of_ble_eq_true rfl, Nat.le_of_ble_eq_true rfl⟩) (vk_recv (i := 1) X.2.2.2.2.2.2.2.2.1 (by decide) X.2.2.2.1) (eK X) eP (eD (A := A)) (eF X) hl.1 rfl rfl (Nat.le_of_ble_eq_true rfl) dJ0_indexOf_7cf53_14 ⟨Nat.le_of_ble_eq_true rfl, Nat.le_of_ble_eq_true rfl⟩ (fun t H1 locs1 ht hB hk hS => ?_)
    have X := Hx_after_none X hk hS
    clear hk hS ht hB
    generalize H1 = H at X ⊢
    generalize locs1 = locs at X ⊢
    obtain ⟨q_7, hc_8, hF⟩ := bnd_some hF
    refine cS_i (As := [.ref (D.2.2.2 1), .int x0, .int x1, .int q_5]) (rest := []) C X (c_J1_indexOf_4cfef__S1 l D  n x0 x1 q_5 q_7 hc_8 _) (va_cwS 4 hts (good_S q4_6 q4_7 q1_16 q4_8) rfl rfl rfl (by decide +kernel) ⟨Nat.le_of_ble_eq_true rfl, Nat.le_of_ble_eq_true rfl⟩) (eK X) eP (eD (A := A)) (eF X) hl.1 rfl rfl (Nat.le_of_ble_eq_true rfl) dJ0_indexOf_7cf53_17 ⟨Nat.le_of_ble_eq_true rfl, Nat.le_of_ble_eq_true rfl⟩ (fun t H1 locs1 ht hB hk hS => ?_)
    have X := Hx_after_none X hk hS
    clear hk hS ht hB
    generalize H1 = H at X ⊢
    generalize locs1 = locs at X ⊢
    refine lv_goto (tgt := 36) hx hb dJ0_indexOf_7cf53_20 (by decide) ?_
    have hq := Option.some.inj hF
    subst hq
    exact rt_i C X dJ0_indexOf_7cf53_36

/-! ### J0_indexOf_0f7a4__S1 -/
theorem dJ0_indexOf_0f7a4_0 : decode cJ0_indexOf_0f7a4 0 = .ok (.aload_n 0, 1) := by decide +kernel
theorem dJ0_indexOf_0f7a4_1 : decode cJ0_indexOf_0f7a4 1 = .ok (.iload_n 1, 1) := by decide +kernel
theorem dJ0_indexOf_0f7a4_2 : decode cJ0_indexOf_0f7a4 2 = .ok (.iconst 0, 1) := by decide +kernel
theorem dJ0_indexOf_0f7a4_3 : decode cJ0_indexOf_0f7a4 3 = .ok (.invokevirtual 633, 3) := by decide +kernel
theorem dJ0_indexOf_0f7a4_6 : decode cJ0_indexOf_0f7a4 6 = .ok (.ireturn, 1) := by decide +kernel
abbrev R_J0_indexOf_0f7a4__S1 : Room := ({ frames := 3, cells := 0, slots := 0, locals := 109 } : Room)
def f_J0_indexOf_0f7a4__S1 (n : Nat) (x0 : Int32) : Option (Int32) :=
  bnd (f_J0_indexOf_7cf53__S1 n x0 (0 : Int32)) (fun q_1 => some q_1)
set_option maxHeartbeats 4000000 in
set_option maxRecDepth 100000 in
theorem c_J0_indexOf_0f7a4__S1 (l : Launch) (D : Dx) (n : Nat) (x0 : Int32) (q : Int32) (hF : f_J0_indexOf_0f7a4__S1 n x0 = some q) (sz : Nat) : Met l yJ0_indexOf_0f7a4 (ws_ yJ0_indexOf_0f7a4 cJ0_indexOf_0f7a4 2 (some .int)) R_J0_indexOf_0f7a4__S1 (PC D ([]) [.ref (D.2.2.1 1), .int x0] ([]) sz) (QI D (va_A ([]) sz) ([]) q) 0 0 (va_A ([]) sz) := by
  refine Met.ofW (cc := cJ0_indexOf_0f7a4) (maxL := 2) (ret := (some .int)) (by decide) rfl ?_
  intro p e s m args below meth c s₁ B hml hv
  obtain ⟨rfl, hsz, hP, hK, hD, hN⟩ := hv
  subst hsz
  have C : Cx p s m _ meth c cJ0_indexOf_0f7a4 (some .int) 2 RJ0 lw_all := Cx_of B hml
  have X := Hx_start hP hK hD hN
  obtain ⟨hx, hb, hr, -, hown, hts, hlk⟩ := id C
  generalize va_A ([]) s.heap.size = A at X ⊢
  have hl := lv_entry ([.ref (D.2.2.1 1), .int x0]) (n := 2) (Nat.le_of_ble_eq_true rfl)
  rw [lg_entry_eq]
  generalize (lg_sl ([.ref (D.2.2.1 1), .int x0]) ++ List.replicate (2 - (lg_sl ([.ref (D.2.2.1 1), .int x0])).length) Slot.unset).toArray = ls at hl ⊢
  have hl : lv_has ls 2 [(0, .ref (D.2.2.1 1)), (1, .int x0)] := hl
  unfold f_J0_indexOf_0f7a4__S1 at hF
  refine lv_aload_n hx hb dJ0_indexOf_0f7a4_0 rfl (lv_at hl 0 rfl) ?_
  refine lv_iload_n hx hb dJ0_indexOf_0f7a4_1 rfl (lv_at hl 1 rfl) ?_
  refine lv_iconst (v := (0 : Int32)) hx hb dJ0_indexOf_0f7a4_2 (by decide) ?_
  obtain ⟨q_1, hc_2, hF⟩ := bnd_some hF
  refine cV_i (As := [.int x0, .int (0 : Int32)]) (rest := []) C X (c_J0_indexOf_7cf53__S1 l D  n x0 (0 : Int32) q_1 hc_2 _) (cwV 2 hts (good_V q3_234 q3_235 q3_236 q1_15 q3_237) rfl rfl rfl (by decide +kernel) ⟨Nat.le_of_ble_eq_true rfl, Nat.le_of_ble_eq_true rfl⟩) (vk_recv (i := 1) X.2.2.2.2.2.2.2.2.1 (by decide) X.2.2.2.1) (eK X) eP (eD (A := A)) (eF X) hl.1 rfl rfl (Nat.le_of_ble_eq_true rfl) dJ0_indexOf_0f7a4_3 ⟨Nat.le_of_ble_eq_true rfl, Nat.le_of_ble_eq_true rfl⟩ (fun t H1 locs1 ht hB hk hS => ?_)
  have X := Hx_after_none X hk hS
  clear hk hS ht hB
  generalize H1 = H at X ⊢
  generalize locs1 = locs at X ⊢
  have hq := Option.some.inj hF
  subst hq
  exact rt_i C X dJ0_indexOf_0f7a4_6

/-! ### X7_byteAt -/
theorem dX7_byteAt_0 : decode cX7_byteAt 0 = .ok (.iload_n 1, 1) := by decide +kernel
theorem dX7_byteAt_1 : decode cX7_byteAt 1 = .ok (.ifCond .lt 24, 3) := by decide +kernel
theorem dX7_byteAt_4 : decode cX7_byteAt 4 = .ok (.iload_n 1, 1) := by decide +kernel
theorem dX7_byteAt_5 : decode cX7_byteAt 5 = .ok (.aload_n 0, 1) := by decide +kernel
theorem dX7_byteAt_6 : decode cX7_byteAt 6 = .ok (.getfield 9, 3) := by decide +kernel
theorem dX7_byteAt_9 : decode cX7_byteAt 9 = .ok (.if_icmp .ge 16, 3) := by decide +kernel
theorem dX7_byteAt_12 : decode cX7_byteAt 12 = .ok (.aload_n 0, 1) := by decide +kernel
theorem dX7_byteAt_13 : decode cX7_byteAt 13 = .ok (.getfield 45, 3) := by decide +kernel
theorem dX7_byteAt_16 : decode cX7_byteAt 16 = .ok (.iload_n 1, 1) := by decide +kernel
theorem dX7_byteAt_17 : decode cX7_byteAt 17 = .ok (.baload, 1) := by decide +kernel
theorem dX7_byteAt_18 : decode cX7_byteAt 18 = .ok (.sipush 255, 3) := by decide +kernel
theorem dX7_byteAt_21 : decode cX7_byteAt 21 = .ok (.iand, 1) := by decide +kernel
theorem dX7_byteAt_22 : decode cX7_byteAt 22 = .ok (.goto 4, 3) := by decide +kernel
theorem dX7_byteAt_25 : decode cX7_byteAt 25 = .ok (.iconst (-1), 1) := by decide +kernel
theorem dX7_byteAt_26 : decode cX7_byteAt 26 = .ok (.ireturn, 1) := by decide +kernel
abbrev R_X7_byteAt : Room := ({ frames := 0, cells := 0, slots := 0, locals := 0 } : Room)
def f_X7_byteAt (gT : Gs) (gT_0 : Gs) (x0 : Int32) : Option (Int32) :=
  if x0 < 0 then (some (-1 : Int32)) else (if (gI gT 2) ≤ x0 then (some (-1 : Int32)) else (grd (inB x0 3000) (some ((gIA gT_0 0 x0.toNatClampNeg) &&& (255 : Int32)))))
set_option maxHeartbeats 4000000 in
set_option maxRecDepth 100000 in
theorem c_X7_byteAt (l : Launch) (D : Dx) (hT : Nat) (aT : Nat → Nat) (yT : Nat → ClassId) (aT_0 : Nat → Nat) (yT_0 : Nat → ClassId) (gT : Gs) (gT_0 : Gs) (x0 : Int32) (q : Int32) (hF : f_X7_byteAt gT gT_0 x0 = some q) (sz : Nat) : Met l yX7_byteAt (ws_ yX7_byteAt cX7_byteAt 2 (some .int)) R_X7_byteAt (PC D (tX7 yT ++ (tTP yT_0)) [.ref hT, .int x0] (wX7 hT aT yT gT ++ (wTP (aT 0) aT_0 yT_0 gT_0)) sz) (QI D (va_A (wX7 hT aT yT gT ++ (wTP (aT 0) aT_0 yT_0 gT_0)) sz) (wX7 hT aT yT gT ++ (wTP (aT 0) aT_0 yT_0 gT_0)) q) 0 0 (va_A (wX7 hT aT yT gT ++ (wTP (aT 0) aT_0 yT_0 gT_0)) sz) := by
  refine Met.ofW (cc := cX7_byteAt) (maxL := 2) (ret := (some .int)) (by decide) rfl ?_
  intro p e s m args below meth c s₁ B hml hv
  obtain ⟨rfl, hsz, hP, hK, hD, hN⟩ := hv
  subst hsz
  have C : Cx p s m _ meth c cX7_byteAt (some .int) 2 RX7 lw_all := Cx_of B hml
  have X := Hx_start hP hK hD hN
  obtain ⟨hx, hb, hr, -, hown, hts, hlk⟩ := id C
  generalize va_A (wX7 hT aT yT gT ++ (wTP (aT 0) aT_0 yT_0 gT_0)) s.heap.size = A at X ⊢
  have hl := lv_entry ([.ref hT, .int x0]) (n := 2) (Nat.le_of_ble_eq_true rfl)
  rw [lg_entry_eq]
  generalize (lg_sl ([.ref hT, .int x0]) ++ List.replicate (2 - (lg_sl ([.ref hT, .int x0])).length) Slot.unset).toArray = ls at hl ⊢
  have hl : lv_has ls 2 [(0, .ref hT), (1, .int x0)] := hl
  unfold f_X7_byteAt at hF
  refine lv_iload_n hx hb dX7_byteAt_0 rfl (lv_at hl 1 rfl) ?_
  refine lv_if_lt (tgt := 25) hx hb dX7_byteAt_1 (by decide) (fun c => ?_) (fun c => ?_)
  · replace hF := iT c hF
    refine lv_iconst (v := (-1 : Int32)) hx hb dX7_byteAt_25 (by decide) ?_
    have hq := Option.some.inj hF
    subst hq
    exact rt_i C X dX7_byteAt_26
  · replace hF := iF c hF
    refine lv_iload_n hx hb dX7_byteAt_4 rfl (lv_at hl 1 rfl) ?_
    refine lv_aload_n hx hb dX7_byteAt_5 rfl (lv_at hl 0 rfl) ?_
    refine va_get (D := D.1) (ci := 7) (v := .int (gI gT 2)) (C := RX7) (T := TX7) (N := 12) hx hb hts wi_X7 hown X.1 X.2.1 0 rfl rfl 2 (by decide) (hts _ q2_237) (fun _ h9 => h9) (fl_get (by decide)) dX7_byteAt_6 ?_
    refine lv_icmp_ge (tgt := 25) hx hb dX7_byteAt_9 (by decide) (fun c => ?_) (fun c => ?_)
    · replace hF := iT c hF
      refine lv_iconst (v := (-1 : Int32)) hx hb dX7_byteAt_25 (by decide) ?_
      have hq := Option.some.inj hF
      subst hq
      exact rt_i C X dX7_byteAt_26
    · replace hF := iF c hF
      refine lv_aload_n hx hb dX7_byteAt_12 rfl (lv_at hl 0 rfl) ?_
      refine va_get (D := D.1) (ci := 7) (v := .ref (aT 0)) (C := RX7) (T := TX7) (N := 12) hx hb hts wi_X7 hown X.1 X.2.1 0 rfl rfl 0 (by decide) (hts _ q2_235) (fun _ h9 => h9) (fl_get (by decide)) dX7_byteAt_13 ?_
      refine lv_iload_n hx hb dX7_byteAt_16 rfl (lv_at hl 1 rfl) ?_
      obtain ⟨h_1, hF⟩ := grd_some hF
      refine va_bald (D := D.1) (f := gIA gT_0 0) hx hb X.1 X.2.1 1 0 rfl rfl (inB_ok h_1) dX7_byteAt_17 ?_
      refine lv_sipush (v := (255 : Int32)) hx hb dX7_byteAt_18 (by decide) ?_
      refine lv_iand hx hb dX7_byteAt_21 ?_
      refine lv_goto (tgt := 26) hx hb dX7_byteAt_22 (by decide) ?_
      have hq := Option.some.inj hF
      subst hq
      exact rt_i C X dX7_byteAt_26

/-! ### X7_isBlank -/
theorem dX7_isBlank_0 : decode cX7_isBlank 0 = .ok (.iload_n 0, 1) := by decide +kernel
theorem dX7_isBlank_1 : decode cX7_isBlank 1 = .ok (.bipush 32, 2) := by decide +kernel
theorem dX7_isBlank_3 : decode cX7_isBlank 3 = .ok (.if_icmp .eq 15, 3) := by decide +kernel
theorem dX7_isBlank_6 : decode cX7_isBlank 6 = .ok (.iload_n 0, 1) := by decide +kernel
theorem dX7_isBlank_7 : decode cX7_isBlank 7 = .ok (.bipush 9, 2) := by decide +kernel
theorem dX7_isBlank_9 : decode cX7_isBlank 9 = .ok (.if_icmp .eq 9, 3) := by decide +kernel
theorem dX7_isBlank_12 : decode cX7_isBlank 12 = .ok (.iload_n 0, 1) := by decide +kernel
theorem dX7_isBlank_13 : decode cX7_isBlank 13 = .ok (.bipush 10, 2) := by decide +kernel
theorem dX7_isBlank_15 : decode cX7_isBlank 15 = .ok (.if_icmp .ne 7, 3) := by decide +kernel
theorem dX7_isBlank_18 : decode cX7_isBlank 18 = .ok (.iconst 1, 1) := by decide +kernel
theorem dX7_isBlank_19 : decode cX7_isBlank 19 = .ok (.goto 4, 3) := by decide +kernel
theorem dX7_isBlank_22 : decode cX7_isBlank 22 = .ok (.iconst 0, 1) := by decide +kernel
theorem dX7_isBlank_23 : decode cX7_isBlank 23 = .ok (.ireturn, 1) := by decide +kernel
abbrev R_X7_isBlank : Room := ({ frames := 0, cells := 0, slots := 0, locals := 0 } : Room)
def f_X7_isBlank (x0 : Int32) : Option (Int32) :=
  if x0 = (32 : Int32) then (some (1 : Int32)) else (if x0 = (9 : Int32) then (some (1 : Int32)) else (if x0 = (10 : Int32) then (some (1 : Int32)) else (some (0 : Int32))))
set_option maxHeartbeats 4000000 in
set_option maxRecDepth 100000 in
theorem c_X7_isBlank (l : Launch) (D : Dx) (x0 : Int32) (q : Int32) (hF : f_X7_isBlank x0 = some q) (sz : Nat) : Met l yX7_isBlank (ws_ yX7_isBlank cX7_isBlank 1 (some .boolean)) R_X7_isBlank (PC D ([]) [.int x0] ([]) sz) (QI D (va_A ([]) sz) ([]) q) 0 0 (va_A ([]) sz) := by
  refine Met.ofW (cc := cX7_isBlank) (maxL := 1) (ret := (some .boolean)) (by decide) rfl ?_
  intro p e s m args below meth c s₁ B hml hv
  obtain ⟨rfl, hsz, hP, hK, hD, hN⟩ := hv
  subst hsz
  have C : Cx p s m _ meth c cX7_isBlank (some .boolean) 1 RX7 lw_all := Cx_of B hml
  have X := Hx_start hP hK hD hN
  obtain ⟨hx, hb, hr, -, hown, hts, hlk⟩ := id C
  generalize va_A ([]) s.heap.size = A at X ⊢
  have hl := lv_entry ([.int x0]) (n := 1) (Nat.le_of_ble_eq_true rfl)
  rw [lg_entry_eq]
  generalize (lg_sl ([.int x0]) ++ List.replicate (1 - (lg_sl ([.int x0])).length) Slot.unset).toArray = ls at hl ⊢
  have hl : lv_has ls 1 [(0, .int x0)] := hl
  unfold f_X7_isBlank at hF
  refine lv_iload_n hx hb dX7_isBlank_0 rfl (lv_at hl 0 rfl) ?_
  refine lv_bipush (v := (32 : Int32)) hx hb dX7_isBlank_1 (by decide) ?_
  refine lv_icmp_eq (tgt := 18) hx hb dX7_isBlank_3 (by decide) (fun c => ?_) (fun c => ?_)
  · replace hF := iT c hF
    refine lv_iconst (v := (1 : Int32)) hx hb dX7_isBlank_18 (by decide) ?_
    refine lv_goto (tgt := 23) hx hb dX7_isBlank_19 (by decide) ?_
    have hq := Option.some.inj hF
    subst hq
    exact rt_z (v := (1 : Int32)) C X (by decide) dX7_isBlank_23
  · replace hF := iF c hF
    refine lv_iload_n hx hb dX7_isBlank_6 rfl (lv_at hl 0 rfl) ?_
    refine lv_bipush (v := (9 : Int32)) hx hb dX7_isBlank_7 (by decide) ?_
    refine lv_icmp_eq (tgt := 18) hx hb dX7_isBlank_9 (by decide) (fun c => ?_) (fun c => ?_)
    · replace hF := iT c hF
      refine lv_iconst (v := (1 : Int32)) hx hb dX7_isBlank_18 (by decide) ?_
      refine lv_goto (tgt := 23) hx hb dX7_isBlank_19 (by decide) ?_
      have hq := Option.some.inj hF
      subst hq
      exact rt_z (v := (1 : Int32)) C X (by decide) dX7_isBlank_23
    · replace hF := iF c hF
      refine lv_iload_n hx hb dX7_isBlank_12 rfl (lv_at hl 0 rfl) ?_
      refine lv_bipush (v := (10 : Int32)) hx hb dX7_isBlank_13 (by decide) ?_
      refine lv_icmp_ne (tgt := 22) hx hb dX7_isBlank_15 (by decide) (fun c => ?_) (fun c => ?_)
      · replace hF := iF c hF
        refine lv_iconst (v := (0 : Int32)) hx hb dX7_isBlank_22 (by decide) ?_
        have hq := Option.some.inj hF
        subst hq
        exact rt_z (v := (0 : Int32)) C X (by decide) dX7_isBlank_23
      · replace hF := iT c hF
        refine lv_iconst (v := (1 : Int32)) hx hb dX7_isBlank_18 (by decide) ?_
        refine lv_goto (tgt := 23) hx hb dX7_isBlank_19 (by decide) ?_
        have hq := Option.some.inj hF
        subst hq
        exact rt_z (v := (1 : Int32)) C X (by decide) dX7_isBlank_23

/-! ### X7_isLetter -/
theorem dX7_isLetter_0 : decode cX7_isLetter 0 = .ok (.iload_n 0, 1) := by decide +kernel
theorem dX7_isLetter_1 : decode cX7_isLetter 1 = .ok (.bipush 97, 2) := by decide +kernel
theorem dX7_isLetter_3 : decode cX7_isLetter 3 = .ok (.if_icmp .lt 9, 3) := by decide +kernel
theorem dX7_isLetter_6 : decode cX7_isLetter 6 = .ok (.iload_n 0, 1) := by decide +kernel
theorem dX7_isLetter_7 : decode cX7_isLetter 7 = .ok (.bipush 122, 2) := by decide +kernel
theorem dX7_isLetter_9 : decode cX7_isLetter 9 = .ok (.if_icmp .le 15, 3) := by decide +kernel
theorem dX7_isLetter_12 : decode cX7_isLetter 12 = .ok (.iload_n 0, 1) := by decide +kernel
theorem dX7_isLetter_13 : decode cX7_isLetter 13 = .ok (.bipush 65, 2) := by decide +kernel
theorem dX7_isLetter_15 : decode cX7_isLetter 15 = .ok (.if_icmp .lt 13, 3) := by decide +kernel
theorem dX7_isLetter_18 : decode cX7_isLetter 18 = .ok (.iload_n 0, 1) := by decide +kernel
theorem dX7_isLetter_19 : decode cX7_isLetter 19 = .ok (.bipush 90, 2) := by decide +kernel
theorem dX7_isLetter_21 : decode cX7_isLetter 21 = .ok (.if_icmp .gt 7, 3) := by decide +kernel
theorem dX7_isLetter_24 : decode cX7_isLetter 24 = .ok (.iconst 1, 1) := by decide +kernel
theorem dX7_isLetter_25 : decode cX7_isLetter 25 = .ok (.goto 4, 3) := by decide +kernel
theorem dX7_isLetter_28 : decode cX7_isLetter 28 = .ok (.iconst 0, 1) := by decide +kernel
theorem dX7_isLetter_29 : decode cX7_isLetter 29 = .ok (.ireturn, 1) := by decide +kernel
abbrev R_X7_isLetter : Room := ({ frames := 0, cells := 0, slots := 0, locals := 0 } : Room)
def b_X7_isLetter_12 (v0 : Int32) : Option (Int32) :=
  if v0 < (65 : Int32) then (some (0 : Int32)) else (if (90 : Int32) < v0 then (some (0 : Int32)) else (some (1 : Int32)))
def f_X7_isLetter (x0 : Int32) : Option (Int32) :=
  if x0 < (97 : Int32) then (b_X7_isLetter_12 x0) else (if x0 ≤ (122 : Int32) then (some (1 : Int32)) else (b_X7_isLetter_12 x0))
def S_X7_isLetter_12 (l : Launch) (D : Dx) (fn : Int32 → Option (Int32)) : Prop :=
  ∀ {p : Program} {e : Env} {s : State} {m : MethodId} {args : Array Value} {below : List Frame} {meth : Method} {c : Code} {H : Heap} {locs : List Loc} {A : Nat → Prop} {ls : Array Slot} {v0 : Int32} {q : Int32}, Cx p s m args meth c cX7_isLetter (some .boolean) 1 RX7 lw_all → Hx D ([]) A s H locs ([]) → lv_has ls 1 [(0, .int v0)] → fn v0 = some q → W p l e R_X7_isLetter s m args below meth c H locs 0 0 (MQ below (QI D A ([]) q) args s 0 0 A) (F0 m 12 ls [])
set_option maxHeartbeats 4000000 in
set_option maxRecDepth 100000 in
theorem k_X7_isLetter_12 (l : Launch) (D : Dx) : S_X7_isLetter_12 l D (b_X7_isLetter_12) := by
  intro p e s m args below meth c H locs A ls v0 q C X hl hF
  obtain ⟨hx, hb, hr, hml, hown, hts, hlk⟩ := id C
  unfold b_X7_isLetter_12 at hF
  refine lv_iload_n hx hb dX7_isLetter_12 rfl (lv_at hl 0 rfl) ?_
  refine lv_bipush (v := (65 : Int32)) hx hb dX7_isLetter_13 (by decide) ?_
  refine lv_icmp_lt (tgt := 28) hx hb dX7_isLetter_15 (by decide) (fun c => ?_) (fun c => ?_)
  · replace hF := iT c hF
    refine lv_iconst (v := (0 : Int32)) hx hb dX7_isLetter_28 (by decide) ?_
    have hq := Option.some.inj hF
    subst hq
    exact rt_z (v := (0 : Int32)) C X (by decide) dX7_isLetter_29
  · replace hF := iF c hF
    refine lv_iload_n hx hb dX7_isLetter_18 rfl (lv_at hl 0 rfl) ?_
    refine lv_bipush (v := (90 : Int32)) hx hb dX7_isLetter_19 (by decide) ?_
    refine lv_icmp_gt (tgt := 28) hx hb dX7_isLetter_21 (by decide) (fun c => ?_) (fun c => ?_)
    · replace hF := iT c hF
      refine lv_iconst (v := (0 : Int32)) hx hb dX7_isLetter_28 (by decide) ?_
      have hq := Option.some.inj hF
      subst hq
      exact rt_z (v := (0 : Int32)) C X (by decide) dX7_isLetter_29
    · replace hF := iF c hF
      refine lv_iconst (v := (1 : Int32)) hx hb dX7_isLetter_24 (by decide) ?_
      refine lv_goto (tgt := 29) hx hb dX7_isLetter_25 (by decide) ?_
      have hq := Option.some.inj hF
      subst hq
      exact rt_z (v := (1 : Int32)) C X (by decide) dX7_isLetter_29
set_option maxHeartbeats 4000000 in
set_option maxRecDepth 100000 in
theorem c_X7_isLetter (l : Launch) (D : Dx) (x0 : Int32) (q : Int32) (hF : f_X7_isLetter x0 = some q) (sz : Nat) : Met l yX7_isLetter (ws_ yX7_isLetter cX7_isLetter 1 (some .boolean)) R_X7_isLetter (PC D ([]) [.int x0] ([]) sz) (QI D (va_A ([]) sz) ([]) q) 0 0 (va_A ([]) sz) := by
  refine Met.ofW (cc := cX7_isLetter) (maxL := 1) (ret := (some .boolean)) (by decide) rfl ?_
  intro p e s m args below meth c s₁ B hml hv
  obtain ⟨rfl, hsz, hP, hK, hD, hN⟩ := hv
  subst hsz
  have C : Cx p s m _ meth c cX7_isLetter (some .boolean) 1 RX7 lw_all := Cx_of B hml
  have X := Hx_start hP hK hD hN
  obtain ⟨hx, hb, hr, -, hown, hts, hlk⟩ := id C
  generalize va_A ([]) s.heap.size = A at X ⊢
  have hl := lv_entry ([.int x0]) (n := 1) (Nat.le_of_ble_eq_true rfl)
  rw [lg_entry_eq]
  generalize (lg_sl ([.int x0]) ++ List.replicate (1 - (lg_sl ([.int x0])).length) Slot.unset).toArray = ls at hl ⊢
  have hl : lv_has ls 1 [(0, .int x0)] := hl
  unfold f_X7_isLetter at hF
  refine lv_iload_n hx hb dX7_isLetter_0 rfl (lv_at hl 0 rfl) ?_
  refine lv_bipush (v := (97 : Int32)) hx hb dX7_isLetter_1 (by decide) ?_
  refine lv_icmp_lt (tgt := 12) hx hb dX7_isLetter_3 (by decide) (fun c => ?_) (fun c => ?_)
  · replace hF := iT c hF
    exact (k_X7_isLetter_12 l D ) C X (lv_sub hl [0] rfl) hF
  · replace hF := iF c hF
    refine lv_iload_n hx hb dX7_isLetter_6 rfl (lv_at hl 0 rfl) ?_
    refine lv_bipush (v := (122 : Int32)) hx hb dX7_isLetter_7 (by decide) ?_
    refine lv_icmp_le (tgt := 24) hx hb dX7_isLetter_9 (by decide) (fun c => ?_) (fun c => ?_)
    · replace hF := iT c hF
      refine lv_iconst (v := (1 : Int32)) hx hb dX7_isLetter_24 (by decide) ?_
      refine lv_goto (tgt := 29) hx hb dX7_isLetter_25 (by decide) ?_
      have hq := Option.some.inj hF
      subst hq
      exact rt_z (v := (1 : Int32)) C X (by decide) dX7_isLetter_29
    · replace hF := iF c hF
      exact (k_X7_isLetter_12 l D ) C X (lv_sub hl [0] rfl) hF

/-! ### X7_isDigit -/
theorem dX7_isDigit_0 : decode cX7_isDigit 0 = .ok (.iload_n 0, 1) := by decide +kernel
theorem dX7_isDigit_1 : decode cX7_isDigit 1 = .ok (.bipush 48, 2) := by decide +kernel
theorem dX7_isDigit_3 : decode cX7_isDigit 3 = .ok (.if_icmp .lt 13, 3) := by decide +kernel
theorem dX7_isDigit_6 : decode cX7_isDigit 6 = .ok (.iload_n 0, 1) := by decide +kernel
theorem dX7_isDigit_7 : decode cX7_isDigit 7 = .ok (.bipush 57, 2) := by decide +kernel
theorem dX7_isDigit_9 : decode cX7_isDigit 9 = .ok (.if_icmp .gt 7, 3) := by decide +kernel
theorem dX7_isDigit_12 : decode cX7_isDigit 12 = .ok (.iconst 1, 1) := by decide +kernel
theorem dX7_isDigit_13 : decode cX7_isDigit 13 = .ok (.goto 4, 3) := by decide +kernel
theorem dX7_isDigit_16 : decode cX7_isDigit 16 = .ok (.iconst 0, 1) := by decide +kernel
theorem dX7_isDigit_17 : decode cX7_isDigit 17 = .ok (.ireturn, 1) := by decide +kernel
abbrev R_X7_isDigit : Room := ({ frames := 0, cells := 0, slots := 0, locals := 0 } : Room)
def f_X7_isDigit (x0 : Int32) : Option (Int32) :=
  if x0 < (48 : Int32) then (some (0 : Int32)) else (if (57 : Int32) < x0 then (some (0 : Int32)) else (some (1 : Int32)))
set_option maxHeartbeats 4000000 in
set_option maxRecDepth 100000 in
theorem c_X7_isDigit (l : Launch) (D : Dx) (x0 : Int32) (q : Int32) (hF : f_X7_isDigit x0 = some q) (sz : Nat) : Met l yX7_isDigit (ws_ yX7_isDigit cX7_isDigit 1 (some .boolean)) R_X7_isDigit (PC D ([]) [.int x0] ([]) sz) (QI D (va_A ([]) sz) ([]) q) 0 0 (va_A ([]) sz) := by
  refine Met.ofW (cc := cX7_isDigit) (maxL := 1) (ret := (some .boolean)) (by decide) rfl ?_
  intro p e s m args below meth c s₁ B hml hv
  obtain ⟨rfl, hsz, hP, hK, hD, hN⟩ := hv
  subst hsz
  have C : Cx p s m _ meth c cX7_isDigit (some .boolean) 1 RX7 lw_all := Cx_of B hml
  have X := Hx_start hP hK hD hN
  obtain ⟨hx, hb, hr, -, hown, hts, hlk⟩ := id C
  generalize va_A ([]) s.heap.size = A at X ⊢
  have hl := lv_entry ([.int x0]) (n := 1) (Nat.le_of_ble_eq_true rfl)
  rw [lg_entry_eq]
  generalize (lg_sl ([.int x0]) ++ List.replicate (1 - (lg_sl ([.int x0])).length) Slot.unset).toArray = ls at hl ⊢
  have hl : lv_has ls 1 [(0, .int x0)] := hl
  unfold f_X7_isDigit at hF
  refine lv_iload_n hx hb dX7_isDigit_0 rfl (lv_at hl 0 rfl) ?_
  refine lv_bipush (v := (48 : Int32)) hx hb dX7_isDigit_1 (by decide) ?_
  refine lv_icmp_lt (tgt := 16) hx hb dX7_isDigit_3 (by decide) (fun c => ?_) (fun c => ?_)
  · replace hF := iT c hF
    refine lv_iconst (v := (0 : Int32)) hx hb dX7_isDigit_16 (by decide) ?_
    have hq := Option.some.inj hF
    subst hq
    exact rt_z (v := (0 : Int32)) C X (by decide) dX7_isDigit_17
  · replace hF := iF c hF
    refine lv_iload_n hx hb dX7_isDigit_6 rfl (lv_at hl 0 rfl) ?_
    refine lv_bipush (v := (57 : Int32)) hx hb dX7_isDigit_7 (by decide) ?_
    refine lv_icmp_gt (tgt := 16) hx hb dX7_isDigit_9 (by decide) (fun c => ?_) (fun c => ?_)
    · replace hF := iT c hF
      refine lv_iconst (v := (0 : Int32)) hx hb dX7_isDigit_16 (by decide) ?_
      have hq := Option.some.inj hF
      subst hq
      exact rt_z (v := (0 : Int32)) C X (by decide) dX7_isDigit_17
    · replace hF := iF c hF
      refine lv_iconst (v := (1 : Int32)) hx hb dX7_isDigit_12 (by decide) ?_
      refine lv_goto (tgt := 17) hx hb dX7_isDigit_13 (by decide) ?_
      have hq := Option.some.inj hF
      subst hq
      exact rt_z (v := (1 : Int32)) C X (by decide) dX7_isDigit_17

/-! ### X7_wordKind -/
theorem dX7_wordKind_0 : decode cX7_wordKind 0 = .ok (.iconst 0, 1) := by decide +kernel
theorem dX7_wordKind_1 : decode cX7_wordKind 1 = .ok (.istore_n 1, 1) := by decide +kernel
theorem dX7_wordKind_2 : decode cX7_wordKind 2 = .ok (.iload_n 1, 1) := by decide +kernel
theorem dX7_wordKind_3 : decode cX7_wordKind 3 = .ok (.bipush 26, 2) := by decide +kernel
theorem dX7_wordKind_5 : decode cX7_wordKind 5 = .ok (.if_icmp .ge 94, 3) := by decide +kernel
theorem dX7_wordKind_8 : decode cX7_wordKind 8 = .ok (.aload_n 0, 1) := by decide +kernel
theorem dX7_wordKind_9 : decode cX7_wordKind 9 = .ok (.getfield 24, 3) := by decide +kernel
theorem dX7_wordKind_12 : decode cX7_wordKind 12 = .ok (.bipush 6, 2) := by decide +kernel
theorem dX7_wordKind_14 : decode cX7_wordKind 14 = .ok (.if_icmp .gt 85, 3) := by decide +kernel
theorem dX7_wordKind_17 : decode cX7_wordKind 17 = .ok (.iconst 0, 1) := by decide +kernel
theorem dX7_wordKind_18 : decode cX7_wordKind 18 = .ok (.istore_n 2, 1) := by decide +kernel
theorem dX7_wordKind_19 : decode cX7_wordKind 19 = .ok (.iconst 0, 1) := by decide +kernel
theorem dX7_wordKind_20 : decode cX7_wordKind 20 = .ok (.istore_n 3, 1) := by decide +kernel
theorem dX7_wordKind_21 : decode cX7_wordKind 21 = .ok (.iload_n 3, 1) := by decide +kernel
theorem dX7_wordKind_22 : decode cX7_wordKind 22 = .ok (.bipush 6, 2) := by decide +kernel
theorem dX7_wordKind_24 : decode cX7_wordKind 24 = .ok (.if_icmp .ge 58, 3) := by decide +kernel
theorem dX7_wordKind_27 : decode cX7_wordKind 27 = .ok (.ldc 90, 2) := by decide +kernel
theorem dX7_wordKind_29 : decode cX7_wordKind 29 = .ok (.iload_n 1, 1) := by decide +kernel
theorem dX7_wordKind_30 : decode cX7_wordKind 30 = .ok (.bipush 6, 2) := by decide +kernel
theorem dX7_wordKind_32 : decode cX7_wordKind 32 = .ok (.imul, 1) := by decide +kernel
theorem dX7_wordKind_33 : decode cX7_wordKind 33 = .ok (.iload_n 3, 1) := by decide +kernel
theorem dX7_wordKind_34 : decode cX7_wordKind 34 = .ok (.iadd, 1) := by decide +kernel
theorem dX7_wordKind_35 : decode cX7_wordKind 35 = .ok (.invokevirtual 92, 3) := by decide +kernel
theorem dX7_wordKind_38 : decode cX7_wordKind 38 = .ok (.istore 4, 2) := by decide +kernel
theorem dX7_wordKind_40 : decode cX7_wordKind 40 = .ok (.iload_n 2, 1) := by decide +kernel
theorem dX7_wordKind_41 : decode cX7_wordKind 41 = .ok (.iload 4, 2) := by decide +kernel
theorem dX7_wordKind_43 : decode cX7_wordKind 43 = .ok (.iload_n 3, 1) := by decide +kernel
theorem dX7_wordKind_44 : decode cX7_wordKind 44 = .ok (.aload_n 0, 1) := by decide +kernel
theorem dX7_wordKind_45 : decode cX7_wordKind 45 = .ok (.getfield 24, 3) := by decide +kernel
theorem dX7_wordKind_48 : decode cX7_wordKind 48 = .ok (.if_icmp .ge 16, 3) := by decide +kernel
theorem dX7_wordKind_51 : decode cX7_wordKind 51 = .ok (.aload_n 0, 1) := by decide +kernel
theorem dX7_wordKind_52 : decode cX7_wordKind 52 = .ok (.aload_n 0, 1) := by decide +kernel
theorem dX7_wordKind_53 : decode cX7_wordKind 53 = .ok (.getfield 15, 3) := by decide +kernel
theorem dX7_wordKind_56 : decode cX7_wordKind 56 = .ok (.iload_n 3, 1) := by decide +kernel
theorem dX7_wordKind_57 : decode cX7_wordKind 57 = .ok (.iadd, 1) := by decide +kernel
theorem dX7_wordKind_58 : decode cX7_wordKind 58 = .ok (.invokevirtual 62, 3) := by decide +kernel
theorem dX7_wordKind_61 : decode cX7_wordKind 61 = .ok (.goto 5, 3) := by decide +kernel
theorem dX7_wordKind_64 : decode cX7_wordKind 64 = .ok (.bipush 32, 2) := by decide +kernel
theorem dX7_wordKind_66 : decode cX7_wordKind 66 = .ok (.if_icmp .ne 7, 3) := by decide +kernel
theorem dX7_wordKind_69 : decode cX7_wordKind 69 = .ok (.iconst 1, 1) := by decide +kernel
theorem dX7_wordKind_70 : decode cX7_wordKind 70 = .ok (.goto 4, 3) := by decide +kernel
theorem dX7_wordKind_73 : decode cX7_wordKind 73 = .ok (.iconst 0, 1) := by decide +kernel
theorem dX7_wordKind_74 : decode cX7_wordKind 74 = .ok (.iadd, 1) := by decide +kernel
theorem dX7_wordKind_75 : decode cX7_wordKind 75 = .ok (.istore_n 2, 1) := by decide +kernel
theorem dX7_wordKind_76 : decode cX7_wordKind 76 = .ok (.iinc 3 1, 3) := by decide +kernel
theorem dX7_wordKind_79 : decode cX7_wordKind 79 = .ok (.goto (-58), 3) := by decide +kernel
theorem dX7_wordKind_82 : decode cX7_wordKind 82 = .ok (.iload_n 2, 1) := by decide +kernel
theorem dX7_wordKind_83 : decode cX7_wordKind 83 = .ok (.bipush 6, 2) := by decide +kernel
theorem dX7_wordKind_85 : decode cX7_wordKind 85 = .ok (.if_icmp .ne 8, 3) := by decide +kernel
theorem dX7_wordKind_88 : decode cX7_wordKind 88 = .ok (.bipush 10, 2) := by decide +kernel
theorem dX7_wordKind_90 : decode cX7_wordKind 90 = .ok (.iload_n 1, 1) := by decide +kernel
theorem dX7_wordKind_91 : decode cX7_wordKind 91 = .ok (.iadd, 1) := by decide +kernel
theorem dX7_wordKind_92 : decode cX7_wordKind 92 = .ok (.ireturn, 1) := by decide +kernel
theorem dX7_wordKind_93 : decode cX7_wordKind 93 = .ok (.iinc 1 1, 3) := by decide +kernel
theorem dX7_wordKind_96 : decode cX7_wordKind 96 = .ok (.goto (-94), 3) := by decide +kernel
theorem dX7_wordKind_99 : decode cX7_wordKind 99 = .ok (.iconst 2, 1) := by decide +kernel
theorem dX7_wordKind_100 : decode cX7_wordKind 100 = .ok (.ireturn, 1) := by decide +kernel
abbrev R_X7_wordKind : Room := ({ frames := 4, cells := 0, slots := 0, locals := 85 } : Room)
def b_X7_wordKind_74 (n : Nat) (rec : (Gs → Gs → Int32 → Option (Int32)) × (Gs → Gs → Int32 → Int32 → Int32 → Option (Int32))) (gT : Gs) (gT_0 : Gs) (v1 : Int32) (v3 : Int32) (s0 : Int32) (s1 : Int32) : Option (Int32) :=
  rec.2 gT gT_0 v1 (s1 + s0) (v3 + (1 : Int32))
def b_X7_wordKind_66 (n : Nat) (rec : (Gs → Gs → Int32 → Option (Int32)) × (Gs → Gs → Int32 → Int32 → Int32 → Option (Int32))) (gT : Gs) (gT_0 : Gs) (v1 : Int32) (v3 : Int32) (s0 : Int32) (s1 : Int32) (s2 : Int32) : Option (Int32) :=
  if s1 = s0 then (b_X7_wordKind_74 n rec gT gT_0 v1 v3 (1 : Int32) s2) else (b_X7_wordKind_74 n rec gT gT_0 v1 v3 (0 : Int32) s2)
def h_X7_wordKind_21 (n : Nat) (rec : (Gs → Gs → Int32 → Option (Int32)) × (Gs → Gs → Int32 → Int32 → Int32 → Option (Int32))) (gT : Gs) (gT_0 : Gs) (v1 : Int32) (v2 : Int32) (v3 : Int32) : Option (Int32) :=
  if (6 : Int32) ≤ v3 then (if v2 = (6 : Int32) then (some ((10 : Int32) + v1)) else (rec.1 gT gT_0 (v1 + (1 : Int32)))) else (bnd (f_J0_charAt_5068e__S0 ((v1 * (6 : Int32)) + v3)) (fun q_1 => if (gI gT 6) ≤ v3 then (b_X7_wordKind_66 n rec gT gT_0 v1 v3 (32 : Int32) q_1 v2) else (bnd (f_X7_byteAt gT gT_0 ((gI gT 3) + v3)) (fun q_3 => b_X7_wordKind_66 n rec gT gT_0 v1 v3 q_3 q_1 v2))))
def h_X7_wordKind_2 (n : Nat) (rec : (Gs → Gs → Int32 → Option (Int32)) × (Gs → Gs → Int32 → Int32 → Int32 → Option (Int32))) (gT : Gs) (gT_0 : Gs) (v1 : Int32) : Option (Int32) :=
  if (26 : Int32) ≤ v1 then (some (2 : Int32)) else (if (6 : Int32) < (gI gT 6) then (some (2 : Int32)) else (rec.2 gT gT_0 v1 (0 : Int32) (0 : Int32)))
def L_X7_wordKind (n : Nat) : Nat → ((Gs → Gs → Int32 → Option (Int32)) × (Gs → Gs → Int32 → Int32 → Int32 → Option (Int32)))
  | 0 => ((fun _ _ _ => none), (fun _ _ _ _ _ => none))
  | k + 1 => (h_X7_wordKind_2 n (L_X7_wordKind n k), h_X7_wordKind_21 n (L_X7_wordKind n k))
def f_X7_wordKind (n : Nat) (gT : Gs) (gT_0 : Gs) : Option (Int32) :=
  (L_X7_wordKind n n).1 gT gT_0 (0 : Int32)
def S_X7_wordKind_74 (l : Launch) (D : Dx) (hT : Nat) (aT : Nat → Nat) (yT : Nat → ClassId) (aT_0 : Nat → Nat) (yT_0 : Nat → ClassId) (fn : Gs → Gs → Int32 → Int32 → Int32 → Int32 → Option (Int32)) : Prop :=
  ∀ {p : Program} {e : Env} {s : State} {m : MethodId} {args : Array Value} {below : List Frame} {meth : Method} {c : Code} {H : Heap} {locs : List Loc} {A : Nat → Prop} {ls : Array Slot} {gT : Gs} {gT_0 : Gs} {v1 : Int32} {v3 : Int32} {s0 : Int32} {s1 : Int32} {q : Int32}, Cx p s m args meth c cX7_wordKind (some .int) 5 RX7 lw_all → Hx D (tX7 yT ++ (tTP yT_0)) A s H locs (wX7 hT aT yT gT ++ (wTP (aT 0) aT_0 yT_0 gT_0)) → lv_has ls 5 [(0, .ref hT), (1, .int v1), (3, .int v3)] → fn gT gT_0 v1 v3 s0 s1 = some q → W p l e R_X7_wordKind s m args below meth c H locs 0 0 (MQ below (QI D A (wX7 hT aT yT gT ++ (wTP (aT 0) aT_0 yT_0 gT_0)) q) args s 0 0 A) (F0 m 74 ls [.int s0, .int s1])
def S_X7_wordKind_66 (l : Launch) (D : Dx) (hT : Nat) (aT : Nat → Nat) (yT : Nat → ClassId) (aT_0 : Nat → Nat) (yT_0 : Nat → ClassId) (fn : Gs → Gs → Int32 → Int32 → Int32 → Int32 → Int32 → Option (Int32)) : Prop :=
  ∀ {p : Program} {e : Env} {s : State} {m : MethodId} {args : Array Value} {below : List Frame} {meth : Method} {c : Code} {H : Heap} {locs : List Loc} {A : Nat → Prop} {ls : Array Slot} {gT : Gs} {gT_0 : Gs} {v1 : Int32} {v3 : Int32} {s0 : Int32} {s1 : Int32} {s2 : Int32} {q : Int32}, Cx p s m args meth c cX7_wordKind (some .int) 5 RX7 lw_all → Hx D (tX7 yT ++ (tTP yT_0)) A s H locs (wX7 hT aT yT gT ++ (wTP (aT 0) aT_0 yT_0 gT_0)) → lv_has ls 5 [(0, .ref hT), (1, .int v1), (3, .int v3)] → fn gT gT_0 v1 v3 s0 s1 s2 = some q → W p l e R_X7_wordKind s m args below meth c H locs 0 0 (MQ below (QI D A (wX7 hT aT yT gT ++ (wTP (aT 0) aT_0 yT_0 gT_0)) q) args s 0 0 A) (F0 m 66 ls [.int s0, .int s1, .int s2])
def S_X7_wordKind_21 (l : Launch) (D : Dx) (hT : Nat) (aT : Nat → Nat) (yT : Nat → ClassId) (aT_0 : Nat → Nat) (yT_0 : Nat → ClassId) (fn : Gs → Gs → Int32 → Int32 → Int32 → Option (Int32)) : Prop :=
  ∀ {p : Program} {e : Env} {s : State} {m : MethodId} {args : Array Value} {below : List Frame} {meth : Method} {c : Code} {H : Heap} {locs : List Loc} {A : Nat → Prop} {ls : Array Slot} {gT : Gs} {gT_0 : Gs} {v1 : Int32} {v2 : Int32} {v3 : Int32} {q : Int32}, Cx p s m args meth c cX7_wordKind (some .int) 5 RX7 lw_all → Hx D (tX7 yT ++ (tTP yT_0)) A s H locs (wX7 hT aT yT gT ++ (wTP (aT 0) aT_0 yT_0 gT_0)) → lv_has ls 5 [(0, .ref hT), (1, .int v1), (2, .int v2), (3, .int v3)] → fn gT gT_0 v1 v2 v3 = some q → W p l e R_X7_wordKind s m args below meth c H locs 0 0 (MQ below (QI D A (wX7 hT aT yT gT ++ (wTP (aT 0) aT_0 yT_0 gT_0)) q) args s 0 0 A) (F0 m 21 ls [])
def S_X7_wordKind_2 (l : Launch) (D : Dx) (hT : Nat) (aT : Nat → Nat) (yT : Nat → ClassId) (aT_0 : Nat → Nat) (yT_0 : Nat → ClassId) (fn : Gs → Gs → Int32 → Option (Int32)) : Prop :=
  ∀ {p : Program} {e : Env} {s : State} {m : MethodId} {args : Array Value} {below : List Frame} {meth : Method} {c : Code} {H : Heap} {locs : List Loc} {A : Nat → Prop} {ls : Array Slot} {gT : Gs} {gT_0 : Gs} {v1 : Int32} {q : Int32}, Cx p s m args meth c cX7_wordKind (some .int) 5 RX7 lw_all → Hx D (tX7 yT ++ (tTP yT_0)) A s H locs (wX7 hT aT yT gT ++ (wTP (aT 0) aT_0 yT_0 gT_0)) → lv_has ls 5 [(0, .ref hT), (1, .int v1)] → fn gT gT_0 v1 = some q → W p l e R_X7_wordKind s m args below meth c H locs 0 0 (MQ below (QI D A (wX7 hT aT yT gT ++ (wTP (aT 0) aT_0 yT_0 gT_0)) q) args s 0 0 A) (F0 m 2 ls [])
def SH_X7_wordKind (l : Launch) (D : Dx) (hT : Nat) (aT : Nat → Nat) (yT : Nat → ClassId) (aT_0 : Nat → Nat) (yT_0 : Nat → ClassId) (rec : (Gs → Gs → Int32 → Option (Int32)) × (Gs → Gs → Int32 → Int32 → Int32 → Option (Int32))) : Prop := S_X7_wordKind_2 l D hT aT yT aT_0 yT_0 rec.1 ∧ S_X7_wordKind_21 l D hT aT yT aT_0 yT_0 rec.2
set_option maxHeartbeats 4000000 in
set_option maxRecDepth 100000 in
theorem k_X7_wordKind_74 (l : Launch) (D : Dx) (hT : Nat) (aT : Nat → Nat) (yT : Nat → ClassId) (aT_0 : Nat → Nat) (yT_0 : Nat → ClassId) (n : Nat) (rec : (Gs → Gs → Int32 → Option (Int32)) × (Gs → Gs → Int32 → Int32 → Int32 → Option (Int32))) (IH : SH_X7_wordKind l D hT aT yT aT_0 yT_0 rec) : S_X7_wordKind_74 l D hT aT yT aT_0 yT_0 (b_X7_wordKind_74 n rec) := by
  intro p e s m args below meth c H locs A ls gT gT_0 v1 v3 s0 s1 q C X hl hF
  obtain ⟨hx, hb, hr, hml, hown, hts, hlk⟩ := id C
  unfold b_X7_wordKind_74 at hF
  refine lv_iadd hx hb dX7_wordKind_74 ?_
  refine lv_istore_n (lv' := [(2, .int (s1 + s0)), (0, .ref hT), (1, .int v1), (3, .int v3)]) hx hb dX7_wordKind_75 rfl hl (by decide) rfl (fun ls hl => ?_)
  refine lv_iinc (v := v3 + (1 : Int32)) (lv' := [(3, .int (v3 + (1 : Int32))), (2, .int (s1 + s0)), (0, .ref hT), (1, .int v1)]) hx hb dX7_wordKind_76 hl (k := 3) rfl rfl (by decide) rfl (fun ls hl => ?_)
  refine lv_goto (tgt := 21) hx hb dX7_wordKind_79 (by decide) ?_
  exact IH.2 C X (lv_sub hl [2, 3, 1, 0] rfl) hF
set_option maxHeartbeats 4000000 in
set_option maxRecDepth 100000 in
theorem k_X7_wordKind_66 (l : Launch) (D : Dx) (hT : Nat) (aT : Nat → Nat) (yT : Nat → ClassId) (aT_0 : Nat → Nat) (yT_0 : Nat → ClassId) (n : Nat) (rec : (Gs → Gs → Int32 → Option (Int32)) × (Gs → Gs → Int32 → Int32 → Int32 → Option (Int32))) (IH : SH_X7_wordKind l D hT aT yT aT_0 yT_0 rec) : S_X7_wordKind_66 l D hT aT yT aT_0 yT_0 (b_X7_wordKind_66 n rec) := by
  intro p e s m args below meth c H locs A ls gT gT_0 v1 v3 s0 s1 s2 q C X hl hF
  obtain ⟨hx, hb, hr, hml, hown, hts, hlk⟩ := id C
  unfold b_X7_wordKind_66 at hF
  refine lv_icmp_ne (tgt := 73) hx hb dX7_wordKind_66 (by decide) (fun c => ?_) (fun c => ?_)
  · replace hF := iF c hF
    refine lv_iconst (v := (0 : Int32)) hx hb dX7_wordKind_73 (by decide) ?_
    exact (k_X7_wordKind_74 l D hT aT yT aT_0 yT_0 n rec IH) C X (lv_sub hl [0, 1, 2] rfl) hF
  · replace hF := iT c hF
    refine lv_iconst (v := (1 : Int32)) hx hb dX7_wordKind_69 (by decide) ?_
    refine lv_goto (tgt := 74) hx hb dX7_wordKind_70 (by decide) ?_
    exact (k_X7_wordKind_74 l D hT aT yT aT_0 yT_0 n rec IH) C X (lv_sub hl [0, 1, 2] rfl) hF
set_option maxHeartbeats 4000000 in
set_option maxRecDepth 100000 in
theorem k_X7_wordKind_21 (l : Launch) (D : Dx) (hT : Nat) (aT : Nat → Nat) (yT : Nat → ClassId) (aT_0 : Nat → Nat) (yT_0 : Nat → ClassId) (n : Nat) (rec : (Gs → Gs → Int32 → Option (Int32)) × (Gs → Gs → Int32 → Int32 → Int32 → Option (Int32))) (IH : SH_X7_wordKind l D hT aT yT aT_0 yT_0 rec) : S_X7_wordKind_21 l D hT aT yT aT_0 yT_0 (h_X7_wordKind_21 n rec) := by
  intro p e s m args below meth c H locs A ls gT gT_0 v1 v2 v3 q C X hl hF
  obtain ⟨hx, hb, hr, hml, hown, hts, hlk⟩ := id C
  unfold h_X7_wordKind_21 at hF
  refine lv_iload_n hx hb dX7_wordKind_21 rfl (lv_at hl 3 rfl) ?_
  refine lv_bipush (v := (6 : Int32)) hx hb dX7_wordKind_22 (by decide) ?_
  refine lv_icmp_ge (tgt := 82) hx hb dX7_wordKind_24 (by decide) (fun c => ?_) (fun c => ?_)
  · replace hF := iT c hF
    refine lv_iload_n hx hb dX7_wordKind_82 rfl (lv_at hl 2 rfl) ?_
    refine lv_bipush (v := (6 : Int32)) hx hb dX7_wordKind_83 (by decide) ?_
    refine lv_icmp_ne (tgt := 93) hx hb dX7_wordKind_85 (by decide) (fun c => ?_) (fun c => ?_)
    · replace hF := iF c hF
      refine lv_iinc (v := v1 + (1 : Int32)) (lv' := [(1, .int (v1 + (1 : Int32))), (0, .ref hT), (2, .int v2), (3, .int v3)]) hx hb dX7_wordKind_93 hl (k := 1) rfl rfl (by decide) rfl (fun ls hl => ?_)
      refine lv_goto (tgt := 2) hx hb dX7_wordKind_96 (by decide) ?_
      exact IH.1 C X (lv_sub hl [1, 0] rfl) hF
    · replace hF := iT c hF
      refine lv_bipush (v := (10 : Int32)) hx hb dX7_wordKind_88 (by decide) ?_
      refine lv_iload_n hx hb dX7_wordKind_90 rfl (lv_at hl 1 rfl) ?_
      refine lv_iadd hx hb dX7_wordKind_91 ?_
      have hq := Option.some.inj hF
      subst hq
      exact rt_i C X dX7_wordKind_92
  · replace hF := iF c hF
    refine va_ldcS hx hb hown X.2.2.2.2.2.2.2.2.2.1 dX7_wordKind_27 ?_
    refine lv_iload_n hx hb dX7_wordKind_29 rfl (lv_at hl 1 rfl) ?_
    refine lv_bipush (v := (6 : Int32)) hx hb dX7_wordKind_30 (by decide) ?_
    refine lv_imul hx hb dX7_wordKind_32 ?_
    refine lv_iload_n hx hb dX7_wordKind_33 rfl (lv_at hl 3 rfl) ?_
    refine lv_iadd hx hb dX7_wordKind_34 ?_
    obtain ⟨q_1, hc_2, hF⟩ := bnd_some hF
    refine cV_i (As := [.int ((v1 * (6 : Int32)) + v3)]) (rest := []) C X (c_J0_charAt_5068e__S0 l D  ((v1 * (6 : Int32)) + v3) q_1 hc_2 _) (cwV 1 hts (good_V q3_156 q3_157 q3_158 q1_15 q3_159) rfl rfl rfl (by decide +kernel) ⟨Nat.le_of_ble_eq_true rfl, Nat.le_of_ble_eq_true rfl⟩) (vk_recv (i := 0) X.2.2.2.2.2.2.2.2.1 (by decide) X.2.2.2.1) (eK X) eP (eD (A := A)) (eF X) hl.1 rfl rfl (Nat.le_of_ble_eq_true rfl) dX7_wordKind_35 ⟨Nat.le_of_ble_eq_true rfl, Nat.le_of_ble_eq_true rfl⟩ (fun t H1 locs1 ht hB hk hS => ?_)
    have X := Hx_after_none X hk hS
    clear hk hS ht hB
    generalize H1 = H at X ⊢
    generalize locs1 = locs at X ⊢
    refine lv_istore (lv' := [(4, .int q_1), (0, .ref hT), (1, .int v1), (2, .int v2), (3, .int v3)]) hx hb dX7_wordKind_38 hl (by decide) rfl (fun ls hl => ?_)
    refine lv_iload_n hx hb dX7_wordKind_40 rfl (lv_at hl 3 rfl) ?_
    refine lv_iload hx hb dX7_wordKind_41 (lv_at hl 0 rfl) ?_
    refine lv_iload_n hx hb dX7_wordKind_43 rfl (lv_at hl 4 rfl) ?_
    refine lv_aload_n hx hb dX7_wordKind_44 rfl (lv_at hl 1 rfl) ?_
    refine va_get (D := D.1) (ci := 7) (v := .int (gI gT 6)) (C := RX7) (T := TX7) (N := 12) hx hb hts wi_X7 hown X.1 X.2.1 0 rfl rfl 6 (by decide) (hts _ q3_3) (fun _ h9 => h9) (fl_get (by decide)) dX7_wordKind_45 ?_
    refine lv_icmp_ge (tgt := 64) hx hb dX7_wordKind_48 (by decide) (fun c => ?_) (fun c => ?_)
    · replace hF := iT c hF
      refine lv_bipush (v := (32 : Int32)) hx hb dX7_wordKind_64 (by decide) ?_
      exact (k_X7_wordKind_66 l D hT aT yT aT_0 yT_0 n rec IH) C X (lv_sub hl [1, 2, 4] rfl) hF
    · replace hF := iF c hF
      refine lv_aload_n hx hb dX7_wordKind_51 rfl (lv_at hl 1 rfl) ?_
      refine lv_aload_n hx hb dX7_wordKind_52 rfl (lv_at hl 1 rfl) ?_
      refine va_get (D := D.1) (ci := 7) (v := .int (gI gT 3)) (C := RX7) (T := TX7) (N := 12) hx hb hts wi_X7 hown X.1 X.2.1 0 rfl rfl 3 (by decide) (hts _ q2_238) (fun _ h9 => h9) (fl_get (by decide)) dX7_wordKind_53 ?_
      refine lv_iload_n hx hb dX7_wordKind_56 rfl (lv_at hl 4 rfl) ?_
      refine lv_iadd hx hb dX7_wordKind_57 ?_
      obtain ⟨q_3, hc_4, hF⟩ := bnd_some hF
      refine cV_i (As := [.int ((gI gT 3) + v3)]) (rest := [.int q_1, .int v2]) C X (c_X7_byteAt l D hT aT yT aT_0 yT_0 gT gT_0 ((gI gT 3) + v3) q_3 hc_4 _) (cwV 1 hts (good_V q3_134 q3_136 q0_3 q1_12 q3_137) rfl rfl rfl (by decide +kernel) ⟨Nat.le_of_ble_eq_true rfl, Nat.le_of_ble_eq_true rfl⟩) (va_recv X.1 X.2.1 (ci := 7) (q0 := 0) rfl rfl) X.1 X.2.1 X.2.2.1 (free_all X) hl.1 rfl rfl (Nat.le_of_ble_eq_true rfl) dX7_wordKind_58 ⟨Nat.le_of_ble_eq_true rfl, Nat.le_of_ble_eq_true rfl⟩ (fun t H1 locs1 ht hB hk hS => ?_)
      have X : Hx D (tX7 yT ++ (tTP yT_0)) A s H1 locs1 (wX7 hT aT yT gT ++ (wTP (aT 0) aT_0 yT_0 gT_0)) := Hx_after_all X ht hB hS
      clear hk hS ht hB
      generalize H1 = H at X ⊢
      generalize locs1 = locs at X ⊢
      refine lv_goto (tgt := 66) hx hb dX7_wordKind_61 (by decide) ?_
      exact (k_X7_wordKind_66 l D hT aT yT aT_0 yT_0 n rec IH) C X (lv_sub hl [1, 2, 4] rfl) hF
set_option maxHeartbeats 4000000 in
set_option maxRecDepth 100000 in
theorem k_X7_wordKind_2 (l : Launch) (D : Dx) (hT : Nat) (aT : Nat → Nat) (yT : Nat → ClassId) (aT_0 : Nat → Nat) (yT_0 : Nat → ClassId) (n : Nat) (rec : (Gs → Gs → Int32 → Option (Int32)) × (Gs → Gs → Int32 → Int32 → Int32 → Option (Int32))) (IH : SH_X7_wordKind l D hT aT yT aT_0 yT_0 rec) : S_X7_wordKind_2 l D hT aT yT aT_0 yT_0 (h_X7_wordKind_2 n rec) := by
  intro p e s m args below meth c H locs A ls gT gT_0 v1 q C X hl hF
  obtain ⟨hx, hb, hr, hml, hown, hts, hlk⟩ := id C
  unfold h_X7_wordKind_2 at hF
  refine lv_iload_n hx hb dX7_wordKind_2 rfl (lv_at hl 1 rfl) ?_
  refine lv_bipush (v := (26 : Int32)) hx hb dX7_wordKind_3 (by decide) ?_
  refine lv_icmp_ge (tgt := 99) hx hb dX7_wordKind_5 (by decide) (fun c => ?_) (fun c => ?_)
  · replace hF := iT c hF
    refine lv_iconst (v := (2 : Int32)) hx hb dX7_wordKind_99 (by decide) ?_
    have hq := Option.some.inj hF
    subst hq
    exact rt_i C X dX7_wordKind_100
  · replace hF := iF c hF
    refine lv_aload_n hx hb dX7_wordKind_8 rfl (lv_at hl 0 rfl) ?_
    refine va_get (D := D.1) (ci := 7) (v := .int (gI gT 6)) (C := RX7) (T := TX7) (N := 12) hx hb hts wi_X7 hown X.1 X.2.1 0 rfl rfl 6 (by decide) (hts _ q3_3) (fun _ h9 => h9) (fl_get (by decide)) dX7_wordKind_9 ?_
    refine lv_bipush (v := (6 : Int32)) hx hb dX7_wordKind_12 (by decide) ?_
    refine lv_icmp_gt (tgt := 99) hx hb dX7_wordKind_14 (by decide) (fun c => ?_) (fun c => ?_)
    · replace hF := iT c hF
      refine lv_iconst (v := (2 : Int32)) hx hb dX7_wordKind_99 (by decide) ?_
      have hq := Option.some.inj hF
      subst hq
      exact rt_i C X dX7_wordKind_100
    · replace hF := iF c hF
      refine lv_iconst (v := (0 : Int32)) hx hb dX7_wordKind_17 (by decide) ?_
      refine lv_istore_n (lv' := [(2, .int (0 : Int32)), (0, .ref hT), (1, .int v1)]) hx hb dX7_wordKind_18 rfl hl (by decide) rfl (fun ls hl => ?_)
      refine lv_iconst (v := (0 : Int32)) hx hb dX7_wordKind_19 (by decide) ?_
      refine lv_istore_n (lv' := [(3, .int (0 : Int32)), (2, .int (0 : Int32)), (0, .ref hT), (1, .int v1)]) hx hb dX7_wordKind_20 rfl hl (by decide) rfl (fun ls hl => ?_)
      exact IH.2 C X (lv_sub hl [2, 3, 1, 0] rfl) hF
theorem kL_X7_wordKind (l : Launch) (D : Dx) (hT : Nat) (aT : Nat → Nat) (yT : Nat → ClassId) (aT_0 : Nat → Nat) (yT_0 : Nat → ClassId) (n : Nat) : ∀ k, SH_X7_wordKind l D hT aT yT aT_0 yT_0 (L_X7_wordKind n k)
  | 0 => ⟨(fun _ _ _ h => by cases h), (fun _ _ _ h => by cases h)⟩
  | k + 1 => ⟨k_X7_wordKind_2 l D hT aT yT aT_0 yT_0 n _ (kL_X7_wordKind l D hT aT yT aT_0 yT_0 n k), k_X7_wordKind_21 l D hT aT yT aT_0 yT_0 n _ (kL_X7_wordKind l D hT aT yT aT_0 yT_0 n k)⟩
set_option maxHeartbeats 4000000 in
set_option maxRecDepth 100000 in
theorem c_X7_wordKind (l : Launch) (D : Dx) (hT : Nat) (aT : Nat → Nat) (yT : Nat → ClassId) (aT_0 : Nat → Nat) (yT_0 : Nat → ClassId) (n : Nat) (gT : Gs) (gT_0 : Gs) (q : Int32) (hF : f_X7_wordKind n gT gT_0 = some q) (sz : Nat) : Met l yX7_wordKind (ws_ yX7_wordKind cX7_wordKind 5 (some .int)) R_X7_wordKind (PC D (tX7 yT ++ (tTP yT_0)) [.ref hT] (wX7 hT aT yT gT ++ (wTP (aT 0) aT_0 yT_0 gT_0)) sz) (QI D (va_A (wX7 hT aT yT gT ++ (wTP (aT 0) aT_0 yT_0 gT_0)) sz) (wX7 hT aT yT gT ++ (wTP (aT 0) aT_0 yT_0 gT_0)) q) 0 0 (va_A (wX7 hT aT yT gT ++ (wTP (aT 0) aT_0 yT_0 gT_0)) sz) := by
  refine Met.ofW (cc := cX7_wordKind) (maxL := 5) (ret := (some .int)) (by decide) rfl ?_
  intro p e s m args below meth c s₁ B hml hv
  obtain ⟨rfl, hsz, hP, hK, hD, hN⟩ := hv
  subst hsz
  have C : Cx p s m _ meth c cX7_wordKind (some .int) 5 RX7 lw_all := Cx_of B hml
  have X := Hx_start hP hK hD hN
  obtain ⟨hx, hb, hr, -, hown, hts, hlk⟩ := id C
  generalize va_A (wX7 hT aT yT gT ++ (wTP (aT 0) aT_0 yT_0 gT_0)) s.heap.size = A at X ⊢
  have hl := lv_entry ([.ref hT]) (n := 5) (Nat.le_of_ble_eq_true rfl)
  rw [lg_entry_eq]
  generalize (lg_sl ([.ref hT]) ++ List.replicate (5 - (lg_sl ([.ref hT])).length) Slot.unset).toArray = ls at hl ⊢
  have hl : lv_has ls 5 [(0, .ref hT)] := hl
  unfold f_X7_wordKind at hF
  refine lv_iconst (v := (0 : Int32)) hx hb dX7_wordKind_0 (by decide) ?_
  refine lv_istore_n (lv' := [(1, .int (0 : Int32)), (0, .ref hT)]) hx hb dX7_wordKind_1 rfl hl (by decide) rfl (fun ls hl => ?_)
  exact (kL_X7_wordKind l D hT aT yT aT_0 yT_0 n n).1 C X (lv_sub hl [1, 0] rfl) hF

/-! ### X7_readWord -/
theorem dX7_readWord_0 : decode cX7_readWord 0 = .ok (.aload_n 0, 1) := by decide +kernel
theorem dX7_readWord_1 : decode cX7_readWord 1 = .ok (.getfield 15, 3) := by decide +kernel
theorem dX7_readWord_4 : decode cX7_readWord 4 = .ok (.istore_n 1, 1) := by decide +kernel
theorem dX7_readWord_5 : decode cX7_readWord 5 = .ok (.iload_n 1, 1) := by decide +kernel
theorem dX7_readWord_6 : decode cX7_readWord 6 = .ok (.aload_n 0, 1) := by decide +kernel
theorem dX7_readWord_7 : decode cX7_readWord 7 = .ok (.getfield 9, 3) := by decide +kernel
theorem dX7_readWord_10 : decode cX7_readWord 10 = .ok (.if_icmp .ge 31, 3) := by decide +kernel
theorem dX7_readWord_13 : decode cX7_readWord 13 = .ok (.aload_n 0, 1) := by decide +kernel
theorem dX7_readWord_14 : decode cX7_readWord 14 = .ok (.iload_n 1, 1) := by decide +kernel
theorem dX7_readWord_15 : decode cX7_readWord 15 = .ok (.invokevirtual 62, 3) := by decide +kernel
theorem dX7_readWord_18 : decode cX7_readWord 18 = .ok (.invokestatic 70, 3) := by decide +kernel
theorem dX7_readWord_21 : decode cX7_readWord 21 = .ok (.ifCond .ne 14, 3) := by decide +kernel
theorem dX7_readWord_24 : decode cX7_readWord 24 = .ok (.aload_n 0, 1) := by decide +kernel
theorem dX7_readWord_25 : decode cX7_readWord 25 = .ok (.iload_n 1, 1) := by decide +kernel
theorem dX7_readWord_26 : decode cX7_readWord 26 = .ok (.invokevirtual 62, 3) := by decide +kernel
theorem dX7_readWord_29 : decode cX7_readWord 29 = .ok (.invokestatic 76, 3) := by decide +kernel
theorem dX7_readWord_32 : decode cX7_readWord 32 = .ok (.ifCond .eq 9, 3) := by decide +kernel
theorem dX7_readWord_35 : decode cX7_readWord 35 = .ok (.iinc 1 1, 3) := by decide +kernel
theorem dX7_readWord_38 : decode cX7_readWord 38 = .ok (.goto (-33), 3) := by decide +kernel
theorem dX7_readWord_41 : decode cX7_readWord 41 = .ok (.aload_n 0, 1) := by decide +kernel
theorem dX7_readWord_42 : decode cX7_readWord 42 = .ok (.iload_n 1, 1) := by decide +kernel
theorem dX7_readWord_43 : decode cX7_readWord 43 = .ok (.aload_n 0, 1) := by decide +kernel
theorem dX7_readWord_44 : decode cX7_readWord 44 = .ok (.getfield 15, 3) := by decide +kernel
theorem dX7_readWord_47 : decode cX7_readWord 47 = .ok (.isub, 1) := by decide +kernel
theorem dX7_readWord_48 : decode cX7_readWord 48 = .ok (.putfield 24, 3) := by decide +kernel
theorem dX7_readWord_51 : decode cX7_readWord 51 = .ok (.aload_n 0, 1) := by decide +kernel
theorem dX7_readWord_52 : decode cX7_readWord 52 = .ok (.getfield 24, 3) := by decide +kernel
theorem dX7_readWord_55 : decode cX7_readWord 55 = .ok (.bipush 10, 2) := by decide +kernel
theorem dX7_readWord_57 : decode cX7_readWord 57 = .ok (.if_icmp .le 22, 3) := by decide +kernel
theorem dX7_readWord_60 : decode cX7_readWord 60 = .ok (.aload_n 0, 1) := by decide +kernel
theorem dX7_readWord_61 : decode cX7_readWord 61 = .ok (.iconst 1, 1) := by decide +kernel
theorem dX7_readWord_62 : decode cX7_readWord 62 = .ok (.putfield 18, 3) := by decide +kernel
theorem dX7_readWord_65 : decode cX7_readWord 65 = .ok (.aload_n 0, 1) := by decide +kernel
theorem dX7_readWord_66 : decode cX7_readWord 66 = .ok (.aload_n 0, 1) := by decide +kernel
theorem dX7_readWord_67 : decode cX7_readWord 67 = .ok (.getfield 15, 3) := by decide +kernel
theorem dX7_readWord_70 : decode cX7_readWord 70 = .ok (.bipush 10, 2) := by decide +kernel
theorem dX7_readWord_72 : decode cX7_readWord 72 = .ok (.iadd, 1) := by decide +kernel
theorem dX7_readWord_73 : decode cX7_readWord 73 = .ok (.putfield 21, 3) := by decide +kernel
theorem dX7_readWord_76 : decode cX7_readWord 76 = .ok (.goto 11, 3) := by decide +kernel
theorem dX7_readWord_79 : decode cX7_readWord 79 = .ok (.aload_n 0, 1) := by decide +kernel
theorem dX7_readWord_80 : decode cX7_readWord 80 = .ok (.aload_n 0, 1) := by decide +kernel
theorem dX7_readWord_81 : decode cX7_readWord 81 = .ok (.invokevirtual 86, 3) := by decide +kernel
theorem dX7_readWord_84 : decode cX7_readWord 84 = .ok (.putfield 18, 3) := by decide +kernel
theorem dX7_readWord_87 : decode cX7_readWord 87 = .ok (.aload_n 0, 1) := by decide +kernel
theorem dX7_readWord_88 : decode cX7_readWord 88 = .ok (.iload_n 1, 1) := by decide +kernel
theorem dX7_readWord_89 : decode cX7_readWord 89 = .ok (.putfield 15, 3) := by decide +kernel
theorem dX7_readWord_92 : decode cX7_readWord 92 = .ok (.return_, 1) := by decide +kernel
abbrev R_X7_readWord : Room := ({ frames := 5, cells := 0, slots := 0, locals := 109 } : Room)
def b_X7_readWord_87 (n : Nat) (rec : (Gs → Gs → Int32 → Option (Gs))) (gT : Gs) (gT_0 : Gs) (v1 : Int32) : Option (Gs) :=
  some (sI gT 3 v1)
def b_X7_readWord_41 (n : Nat) (rec : (Gs → Gs → Int32 → Option (Gs))) (gT : Gs) (gT_0 : Gs) (v1 : Int32) : Option (Gs) :=
  if (v1 - (gI gT 3)) ≤ (10 : Int32) then (bnd (f_X7_wordKind n (sI gT 6 (v1 - (gI gT 3))) gT_0) (fun q_1 => b_X7_readWord_87 n rec (sI (sI gT 6 (v1 - (gI gT 3))) 4 q_1) gT_0 v1)) else (b_X7_readWord_87 n rec (sI (sI (sI gT 6 (v1 - (gI gT 3))) 4 (1 : Int32)) 5 ((gI gT 3) + (10 : Int32))) gT_0 v1)
def b_X7_readWord_35 (n : Nat) (rec : (Gs → Gs → Int32 → Option (Gs))) (gT : Gs) (gT_0 : Gs) (v1 : Int32) : Option (Gs) :=
  rec gT gT_0 (v1 + (1 : Int32))
def h_X7_readWord_5 (n : Nat) (rec : (Gs → Gs → Int32 → Option (Gs))) (gT : Gs) (gT_0 : Gs) (v1 : Int32) : Option (Gs) :=
  if (gI gT 2) ≤ v1 then (b_X7_readWord_41 n rec gT gT_0 v1) else (bnd (f_X7_byteAt gT gT_0 v1) (fun q_3 => bnd (f_X7_isLetter q_3) (fun q_5 => if q_5 = 0 then (bnd (f_X7_byteAt gT gT_0 v1) (fun q_7 => bnd (f_X7_isDigit q_7) (fun q_9 => if q_9 = 0 then (b_X7_readWord_41 n rec gT gT_0 v1) else (b_X7_readWord_35 n rec gT gT_0 v1)))) else (b_X7_readWord_35 n rec gT gT_0 v1))))
def L_X7_readWord (n : Nat) : Nat → (Gs → Gs → Int32 → Option (Gs))
  | 0 => ((fun _ _ _ => none))
  | k + 1 => (h_X7_readWord_5 n (L_X7_readWord n k))
def f_X7_readWord (n : Nat) (gT : Gs) (gT_0 : Gs) : Option (Gs) :=
  (L_X7_readWord n n) gT gT_0 (gI gT 3)
def S_X7_readWord_87 (l : Launch) (D : Dx) (hT : Nat) (aT : Nat → Nat) (yT : Nat → ClassId) (aT_0 : Nat → Nat) (yT_0 : Nat → ClassId) (fn : Gs → Gs → Int32 → Option (Gs)) : Prop :=
  ∀ {p : Program} {e : Env} {s : State} {m : MethodId} {args : Array Value} {below : List Frame} {meth : Method} {c : Code} {H : Heap} {locs : List Loc} {A : Nat → Prop} {ls : Array Slot} {gT : Gs} {gT_0 : Gs} {v1 : Int32} {q : Gs}, Cx p s m args meth c cX7_readWord none 2 RX7 lw_all → Hx D (tX7 yT ++ (tTP yT_0)) A s H locs (wX7 hT aT yT gT ++ (wTP (aT 0) aT_0 yT_0 gT_0)) → lv_has ls 2 [(0, .ref hT), (1, .int v1)] → fn gT gT_0 v1 = some q → W p l e R_X7_readWord s m args below meth c H locs 0 0 (MQ below (QV D A (wX7 hT aT yT q ++ (wTP (aT 0) aT_0 yT_0 gT_0))) args s 0 0 A) (F0 m 87 ls [])
def S_X7_readWord_41 (l : Launch) (D : Dx) (hT : Nat) (aT : Nat → Nat) (yT : Nat → ClassId) (aT_0 : Nat → Nat) (yT_0 : Nat → ClassId) (fn : Gs → Gs → Int32 → Option (Gs)) : Prop :=
  ∀ {p : Program} {e : Env} {s : State} {m : MethodId} {args : Array Value} {below : List Frame} {meth : Method} {c : Code} {H : Heap} {locs : List Loc} {A : Nat → Prop} {ls : Array Slot} {gT : Gs} {gT_0 : Gs} {v1 : Int32} {q : Gs}, Cx p s m args meth c cX7_readWord none 2 RX7 lw_all → Hx D (tX7 yT ++ (tTP yT_0)) A s H locs (wX7 hT aT yT gT ++ (wTP (aT 0) aT_0 yT_0 gT_0)) → lv_has ls 2 [(0, .ref hT), (1, .int v1)] → fn gT gT_0 v1 = some q → W p l e R_X7_readWord s m args below meth c H locs 0 0 (MQ below (QV D A (wX7 hT aT yT q ++ (wTP (aT 0) aT_0 yT_0 gT_0))) args s 0 0 A) (F0 m 41 ls [])
def S_X7_readWord_35 (l : Launch) (D : Dx) (hT : Nat) (aT : Nat → Nat) (yT : Nat → ClassId) (aT_0 : Nat → Nat) (yT_0 : Nat → ClassId) (fn : Gs → Gs → Int32 → Option (Gs)) : Prop :=
  ∀ {p : Program} {e : Env} {s : State} {m : MethodId} {args : Array Value} {below : List Frame} {meth : Method} {c : Code} {H : Heap} {locs : List Loc} {A : Nat → Prop} {ls : Array Slot} {gT : Gs} {gT_0 : Gs} {v1 : Int32} {q : Gs}, Cx p s m args meth c cX7_readWord none 2 RX7 lw_all → Hx D (tX7 yT ++ (tTP yT_0)) A s H locs (wX7 hT aT yT gT ++ (wTP (aT 0) aT_0 yT_0 gT_0)) → lv_has ls 2 [(0, .ref hT), (1, .int v1)] → fn gT gT_0 v1 = some q → W p l e R_X7_readWord s m args below meth c H locs 0 0 (MQ below (QV D A (wX7 hT aT yT q ++ (wTP (aT 0) aT_0 yT_0 gT_0))) args s 0 0 A) (F0 m 35 ls [])
def S_X7_readWord_5 (l : Launch) (D : Dx) (hT : Nat) (aT : Nat → Nat) (yT : Nat → ClassId) (aT_0 : Nat → Nat) (yT_0 : Nat → ClassId) (fn : Gs → Gs → Int32 → Option (Gs)) : Prop :=
  ∀ {p : Program} {e : Env} {s : State} {m : MethodId} {args : Array Value} {below : List Frame} {meth : Method} {c : Code} {H : Heap} {locs : List Loc} {A : Nat → Prop} {ls : Array Slot} {gT : Gs} {gT_0 : Gs} {v1 : Int32} {q : Gs}, Cx p s m args meth c cX7_readWord none 2 RX7 lw_all → Hx D (tX7 yT ++ (tTP yT_0)) A s H locs (wX7 hT aT yT gT ++ (wTP (aT 0) aT_0 yT_0 gT_0)) → lv_has ls 2 [(0, .ref hT), (1, .int v1)] → fn gT gT_0 v1 = some q → W p l e R_X7_readWord s m args below meth c H locs 0 0 (MQ below (QV D A (wX7 hT aT yT q ++ (wTP (aT 0) aT_0 yT_0 gT_0))) args s 0 0 A) (F0 m 5 ls [])
def SH_X7_readWord (l : Launch) (D : Dx) (hT : Nat) (aT : Nat → Nat) (yT : Nat → ClassId) (aT_0 : Nat → Nat) (yT_0 : Nat → ClassId) (rec : (Gs → Gs → Int32 → Option (Gs))) : Prop := S_X7_readWord_5 l D hT aT yT aT_0 yT_0 rec
set_option maxHeartbeats 4000000 in
set_option maxRecDepth 100000 in
theorem k_X7_readWord_87 (l : Launch) (D : Dx) (hT : Nat) (aT : Nat → Nat) (yT : Nat → ClassId) (aT_0 : Nat → Nat) (yT_0 : Nat → ClassId) (n : Nat) (rec : (Gs → Gs → Int32 → Option (Gs))) (IH : SH_X7_readWord l D hT aT yT aT_0 yT_0 rec) : S_X7_readWord_87 l D hT aT yT aT_0 yT_0 (b_X7_readWord_87 n rec) := by
  intro p e s m args below meth c H locs A ls gT gT_0 v1 q C X hl hF
  obtain ⟨hx, hb, hr, hml, hown, hts, hlk⟩ := id C
  unfold b_X7_readWord_87 at hF
  refine lv_aload_n hx hb dX7_readWord_87 rfl (lv_at hl 0 rfl) ?_
  refine lv_iload_n hx hb dX7_readWord_88 rfl (lv_at hl 1 rfl) ?_
  refine va_put (D := D.1) (ci := 7) (v := .int v1) (ty := .int) (C := RX7) (T := TX7) (N := 12) hx hb hts wi_X7 tyX7 tyX7_ok nmX7 hown X.1 X.2.1 X.2.2.1 X.2.2.2.1 0 rfl rfl 3 (by decide) (hts _ q2_238) (fun _ h9 => h9) rfl (by decide +kernel) rfl rfl (by rw [List.length_map, List.length_range]; decide) dX7_readWord_89 (fun H locs hP hD hS => ?_)
  have X : Hx D (tX7 yT ++ (tTP yT_0)) A s H locs (wX7 hT aT yT (sI gT 3 v1) ++ (wTP (aT 0) aT_0 yT_0 gT_0)) := Hx_set X (set_l (by rw [wG_len (m := 1) rfl]; decide) (wG_sI (k := 3) rfl)) hP hD hS
  have hq := Option.some.inj hF
  subst hq
  exact rt_v C X dX7_readWord_92
set_option maxHeartbeats 4000000 in
set_option maxRecDepth 100000 in
theorem k_X7_readWord_41 (l : Launch) (D : Dx) (hT : Nat) (aT : Nat → Nat) (yT : Nat → ClassId) (aT_0 : Nat → Nat) (yT_0 : Nat → ClassId) (n : Nat) (rec : (Gs → Gs → Int32 → Option (Gs))) (IH : SH_X7_readWord l D hT aT yT aT_0 yT_0 rec) : S_X7_readWord_41 l D hT aT yT aT_0 yT_0 (b_X7_readWord_41 n rec) := by
  intro p e s m args below meth c H locs A ls gT gT_0 v1 q C X hl hF
  obtain ⟨hx, hb, hr, hml, hown, hts, hlk⟩ := id C
  unfold b_X7_readWord_41 at hF
  refine lv_aload_n hx hb dX7_readWord_41 rfl (lv_at hl 0 rfl) ?_
  refine lv_iload_n hx hb dX7_readWord_42 rfl (lv_at hl 1 rfl) ?_
  refine lv_aload_n hx hb dX7_readWord_43 rfl (lv_at hl 0 rfl) ?_
  refine va_get (D := D.1) (ci := 7) (v := .int (gI gT 3)) (C := RX7) (T := TX7) (N := 12) hx hb hts wi_X7 hown X.1 X.2.1 0 rfl rfl 3 (by decide) (hts _ q2_238) (fun _ h9 => h9) (fl_get (by decide)) dX7_readWord_44 ?_
  refine lv_isub hx hb dX7_readWord_47 ?_
  refine va_put (D := D.1) (ci := 7) (v := .int (v1 - (gI gT 3))) (ty := .int) (C := RX7) (T := TX7) (N := 12) hx hb hts wi_X7 tyX7 tyX7_ok nmX7 hown X.1 X.2.1 X.2.2.1 X.2.2.2.1 0 rfl rfl 6 (by decide) (hts _ q3_3) (fun _ h9 => h9) rfl (by decide +kernel) rfl rfl (by rw [List.length_map, List.length_range]; decide) dX7_readWord_48 (fun H locs hP hD hS => ?_)
  have X : Hx D (tX7 yT ++ (tTP yT_0)) A s H locs (wX7 hT aT yT (sI gT 6 (v1 - (gI gT 3))) ++ (wTP (aT 0) aT_0 yT_0 gT_0)) := Hx_set X (set_l (by rw [wG_len (m := 1) rfl]; decide) (wG_sI (k := 6) rfl)) hP hD hS
  refine lv_aload_n hx hb dX7_readWord_51 rfl (lv_at hl 0 rfl) ?_
  refine va_get (D := D.1) (ci := 7) (v := .int (v1 - (gI gT 3))) (C := RX7) (T := TX7) (N := 12) hx hb hts wi_X7 hown X.1 X.2.1 0 rfl rfl 6 (by decide) (hts _ q3_3) (fun _ h9 => h9) (fl_get (by decide)) dX7_readWord_52 ?_
  refine lv_bipush (v := (10 : Int32)) hx hb dX7_readWord_55 (by decide) ?_
  refine lv_icmp_le (tgt := 79) hx hb dX7_readWord_57 (by decide) (fun c => ?_) (fun c => ?_)
  · replace hF := iT c hF
    refine lv_aload_n hx hb dX7_readWord_79 rfl (lv_at hl 0 rfl) ?_
    refine lv_aload_n hx hb dX7_readWord_80 rfl (lv_at hl 0 rfl) ?_
    obtain ⟨q_1, hc_2, hF⟩ := bnd_some hF
    refine cV_i (As := []) (rest := [.ref hT]) C X (c_X7_wordKind l D hT aT yT aT_0 yT_0 n (sI gT 6 (v1 - (gI gT 3))) gT_0 q_1 hc_2 _) (cwV 0 hts (good_V q3_151 q3_153 q0_5 q1_12 q3_154) rfl rfl rfl (by decide +kernel) ⟨Nat.le_of_ble_eq_true rfl, Nat.le_of_ble_eq_true rfl⟩) (va_recv X.1 X.2.1 (ci := 7) (q0 := 0) rfl rfl) X.1 X.2.1 X.2.2.1 (free_all X) hl.1 rfl rfl (Nat.le_of_ble_eq_true rfl) dX7_readWord_81 ⟨Nat.le_of_ble_eq_true rfl, Nat.le_of_ble_eq_true rfl⟩ (fun t H1 locs1 ht hB hk hS => ?_)
    have X : Hx D (tX7 yT ++ (tTP yT_0)) A s H1 locs1 (wX7 hT aT yT (sI gT 6 (v1 - (gI gT 3))) ++ (wTP (aT 0) aT_0 yT_0 gT_0)) := Hx_after_all X ht hB hS
    clear hk hS ht hB
    generalize H1 = H at X ⊢
    generalize locs1 = locs at X ⊢
    refine va_put (D := D.1) (ci := 7) (v := .int q_1) (ty := .int) (C := RX7) (T := TX7) (N := 12) hx hb hts wi_X7 tyX7 tyX7_ok nmX7 hown X.1 X.2.1 X.2.2.1 X.2.2.2.1 0 rfl rfl 4 (by decide) (hts _ q2_239) (fun _ h9 => h9) rfl (by decide +kernel) rfl rfl (by rw [List.length_map, List.length_range]; decide) dX7_readWord_84 (fun H locs hP hD hS => ?_)
    have X : Hx D (tX7 yT ++ (tTP yT_0)) A s H locs (wX7 hT aT yT (sI (sI gT 6 (v1 - (gI gT 3))) 4 q_1) ++ (wTP (aT 0) aT_0 yT_0 gT_0)) := Hx_set X (set_l (by rw [wG_len (m := 1) rfl]; decide) (wG_sI (k := 4) rfl)) hP hD hS
    exact (k_X7_readWord_87 l D hT aT yT aT_0 yT_0 n rec IH) C X (lv_sub hl [0, 1] rfl) hF
  · replace hF := iF c hF
    refine lv_aload_n hx hb dX7_readWord_60 rfl (lv_at hl 0 rfl) ?_
    refine lv_iconst (v := (1 : Int32)) hx hb dX7_readWord_61 (by decide) ?_
    refine va_put (D := D.1) (ci := 7) (v := .int (1 : Int32)) (ty := .int) (C := RX7) (T := TX7) (N := 12) hx hb hts wi_X7 tyX7 tyX7_ok nmX7 hown X.1 X.2.1 X.2.2.1 X.2.2.2.1 0 rfl rfl 4 (by decide) (hts _ q2_239) (fun _ h9 => h9) rfl (by decide +kernel) rfl rfl (by rw [List.length_map, List.length_range]; decide) dX7_readWord_62 (fun H locs hP hD hS => ?_)
    have X : Hx D (tX7 yT ++ (tTP yT_0)) A s H locs (wX7 hT aT yT (sI (sI gT 6 (v1 - (gI gT 3))) 4 (1 : Int32)) ++ (wTP (aT 0) aT_0 yT_0 gT_0)) := Hx_set X (set_l (by rw [wG_len (m := 1) rfl]; decide) (wG_sI (k := 4) rfl)) hP hD hS
    refine lv_aload_n hx hb dX7_readWord_65 rfl (lv_at hl 0 rfl) ?_
    refine lv_aload_n hx hb dX7_readWord_66 rfl (lv_at hl 0 rfl) ?_
    refine va_get (D := D.1) (ci := 7) (v := .int (gI gT 3)) (C := RX7) (T := TX7) (N := 12) hx hb hts wi_X7 hown X.1 X.2.1 0 rfl rfl 3 (by decide) (hts _ q2_238) (fun _ h9 => h9) (fl_get (by decide)) dX7_readWord_67 ?_
    refine lv_bipush (v := (10 : Int32)) hx hb dX7_readWord_70 (by decide) ?_
    refine lv_iadd hx hb dX7_readWord_72 ?_
    refine va_put (D := D.1) (ci := 7) (v := .int ((gI gT 3) + (10 : Int32))) (ty := .int) (C := RX7) (T := TX7) (N := 12) hx hb hts wi_X7 tyX7 tyX7_ok nmX7 hown X.1 X.2.1 X.2.2.1 X.2.2.2.1 0 rfl rfl 5 (by decide) (hts _ q3_1) (fun _ h9 => h9) rfl (by decide +kernel) rfl rfl (by rw [List.length_map, List.length_range]; decide) dX7_readWord_73 (fun H locs hP hD hS => ?_)
    have X : Hx D (tX7 yT ++ (tTP yT_0)) A s H locs (wX7 hT aT yT (sI (sI (sI gT 6 (v1 - (gI gT 3))) 4 (1 : Int32)) 5 ((gI gT 3) + (10 : Int32))) ++ (wTP (aT 0) aT_0 yT_0 gT_0)) := Hx_set X (set_l (by rw [wG_len (m := 1) rfl]; decide) (wG_sI (k := 5) rfl)) hP hD hS
    refine lv_goto (tgt := 87) hx hb dX7_readWord_76 (by decide) ?_
    exact (k_X7_readWord_87 l D hT aT yT aT_0 yT_0 n rec IH) C X (lv_sub hl [0, 1] rfl) hF
set_option maxHeartbeats 4000000 in
set_option maxRecDepth 100000 in
theorem k_X7_readWord_35 (l : Launch) (D : Dx) (hT : Nat) (aT : Nat → Nat) (yT : Nat → ClassId) (aT_0 : Nat → Nat) (yT_0 : Nat → ClassId) (n : Nat) (rec : (Gs → Gs → Int32 → Option (Gs))) (IH : SH_X7_readWord l D hT aT yT aT_0 yT_0 rec) : S_X7_readWord_35 l D hT aT yT aT_0 yT_0 (b_X7_readWord_35 n rec) := by
  intro p e s m args below meth c H locs A ls gT gT_0 v1 q C X hl hF
  obtain ⟨hx, hb, hr, hml, hown, hts, hlk⟩ := id C
  unfold b_X7_readWord_35 at hF
  refine lv_iinc (v := v1 + (1 : Int32)) (lv' := [(1, .int (v1 + (1 : Int32))), (0, .ref hT)]) hx hb dX7_readWord_35 hl (k := 1) rfl rfl (by decide) rfl (fun ls hl => ?_)
  refine lv_goto (tgt := 5) hx hb dX7_readWord_38 (by decide) ?_
  exact IH C X (lv_sub hl [1, 0] rfl) hF
set_option maxHeartbeats 4000000 in
set_option maxRecDepth 100000 in
theorem k_X7_readWord_5 (l : Launch) (D : Dx) (hT : Nat) (aT : Nat → Nat) (yT : Nat → ClassId) (aT_0 : Nat → Nat) (yT_0 : Nat → ClassId) (n : Nat) (rec : (Gs → Gs → Int32 → Option (Gs))) (IH : SH_X7_readWord l D hT aT yT aT_0 yT_0 rec) : S_X7_readWord_5 l D hT aT yT aT_0 yT_0 (h_X7_readWord_5 n rec) := by
  intro p e s m args below meth c H locs A ls gT gT_0 v1 q C X hl hF
  obtain ⟨hx, hb, hr, hml, hown, hts, hlk⟩ := id C
  unfold h_X7_readWord_5 at hF
  refine lv_iload_n hx hb dX7_readWord_5 rfl (lv_at hl 1 rfl) ?_
  refine lv_aload_n hx hb dX7_readWord_6 rfl (lv_at hl 0 rfl) ?_
  refine va_get (D := D.1) (ci := 7) (v := .int (gI gT 2)) (C := RX7) (T := TX7) (N := 12) hx hb hts wi_X7 hown X.1 X.2.1 0 rfl rfl 2 (by decide) (hts _ q2_237) (fun _ h9 => h9) (fl_get (by decide)) dX7_readWord_7 ?_
  refine lv_icmp_ge (tgt := 41) hx hb dX7_readWord_10 (by decide) (fun c => ?_) (fun c => ?_)
  · replace hF := iT c hF
    exact (k_X7_readWord_41 l D hT aT yT aT_0 yT_0 n rec IH) C X (lv_sub hl [0, 1] rfl) hF
  · replace hF := iF c hF
    refine lv_aload_n hx hb dX7_readWord_13 rfl (lv_at hl 0 rfl) ?_
    refine lv_iload_n hx hb dX7_readWord_14 rfl (lv_at hl 1 rfl) ?_
    obtain ⟨q_3, hc_4, hF⟩ := bnd_some hF
    refine cV_i (As := [.int v1]) (rest := []) C X (c_X7_byteAt l D hT aT yT aT_0 yT_0 gT gT_0 v1 q_3 hc_4 _) (cwV 1 hts (good_V q3_134 q3_136 q0_3 q1_12 q3_137) rfl rfl rfl (by decide +kernel) ⟨Nat.le_of_ble_eq_true rfl, Nat.le_of_ble_eq_true rfl⟩) (va_recv X.1 X.2.1 (ci := 7) (q0 := 0) rfl rfl) X.1 X.2.1 X.2.2.1 (free_all X) hl.1 rfl rfl (Nat.le_of_ble_eq_true rfl) dX7_readWord_15 ⟨Nat.le_of_ble_eq_true rfl, Nat.le_of_ble_eq_true rfl⟩ (fun t H1 locs1 ht hB hk hS => ?_)
    have X : Hx D (tX7 yT ++ (tTP yT_0)) A s H1 locs1 (wX7 hT aT yT gT ++ (wTP (aT 0) aT_0 yT_0 gT_0)) := Hx_after_all X ht hB hS
    clear hk hS ht hB
    generalize H1 = H at X ⊢
    generalize locs1 = locs at X ⊢
    obtain ⟨q_5, hc_6, hF⟩ := bnd_some hF
    refine cS_i (As := [.int q_3]) (rest := []) C X (c_X7_isLetter l D  q_3 q_5 hc_6 _) (va_cwS 1 hts (good_S q3_141 q3_142 q1_12 q3_143) rfl rfl rfl (by decide +kernel) ⟨Nat.le_of_ble_eq_true rfl, Nat.le_of_ble_eq_true rfl⟩) (eK X) eP (eD (A := A)) (eF X) hl.1 rfl rfl (Nat.le_of_ble_eq_true rfl) dX7_readWord_18 ⟨Nat.le_of_ble_eq_true rfl, Nat.le_of_ble_eq_true rfl⟩ (fun t H1 locs1 ht hB hk hS => ?_)
    have X := Hx_after_none X hk hS
    clear hk hS ht hB
    generalize H1 = H at X ⊢
    generalize locs1 = locs at X ⊢
    refine lv_if_ne (tgt := 35) hx hb dX7_readWord_21 (by decide) (fun c => ?_) (fun c => ?_)
    · replace hF := iF c hF
      exact (k_X7_readWord_35 l D hT aT yT aT_0 yT_0 n rec IH) C X (lv_sub hl [0, 1] rfl) hF
    · replace hF := iT c hF
      refine lv_aload_n hx hb dX7_readWord_24 rfl (lv_at hl 0 rfl) ?_
      refine lv_iload_n hx hb dX7_readWord_25 rfl (lv_at hl 1 rfl) ?_
      obtain ⟨q_7, hc_8, hF⟩ := bnd_some hF
      refine cV_i (As := [.int v1]) (rest := []) C X (c_X7_byteAt l D hT aT yT aT_0 yT_0 gT gT_0 v1 q_7 hc_8 _) (cwV 1 hts (good_V q3_134 q3_136 q0_3 q1_12 q3_137) rfl rfl rfl (by decide +kernel) ⟨Nat.le_of_ble_eq_true rfl, Nat.le_of_ble_eq_true rfl⟩) (va_recv X.1 X.2.1 (ci := 7) (q0 := 0) rfl rfl) X.1 X.2.1 X.2.2.1 (free_all X) hl.1 rfl rfl (Nat.le_of_ble_eq_true rfl) dX7_readWord_26 ⟨Nat.le_of_ble_eq_true rfl, Nat.le_of_ble_eq_true rfl⟩ (fun t H1 locs1 ht hB hk hS => ?_)
      have X : Hx D (tX7 yT ++ (tTP yT_0)) A s H1 locs1 (wX7 hT aT yT gT ++ (wTP (aT 0) aT_0 yT_0 gT_0)) := Hx_after_all X ht hB hS
      clear hk hS ht hB
      generalize H1 = H at X ⊢
      generalize locs1 = locs at X ⊢
      obtain ⟨q_9, hc_10, hF⟩ := bnd_some hF
      refine cS_i (As := [.int q_7]) (rest := []) C X (c_X7_isDigit l D  q_7 q_9 hc_10 _) (va_cwS 1 hts (good_S q3_148 q3_149 q1_12 q3_150) rfl rfl rfl (by decide +kernel) ⟨Nat.le_of_ble_eq_true rfl, Nat.le_of_ble_eq_true rfl⟩) (eK X) eP (eD (A := A)) (eF X) hl.1 rfl rfl (Nat.le_of_ble_eq_true rfl) dX7_readWord_29 ⟨Nat.le_of_ble_eq_true rfl, Nat.le_of_ble_eq_true rfl⟩ (fun t H1 locs1 ht hB hk hS => ?_)
      have X := Hx_after_none X hk hS
      clear hk hS ht hB
      generalize H1 = H at X ⊢
      generalize locs1 = locs at X ⊢
      refine lv_if_eq (tgt := 41) hx hb dX7_readWord_32 (by decide) (fun c => ?_) (fun c => ?_)
      · replace hF := iT c hF
        exact (k_X7_readWord_41 l D hT aT yT aT_0 yT_0 n rec IH) C X (lv_sub hl [0, 1] rfl) hF
      · replace hF := iF c hF
        exact (k_X7_readWord_35 l D hT aT yT aT_0 yT_0 n rec IH) C X (lv_sub hl [0, 1] rfl) hF
theorem kL_X7_readWord (l : Launch) (D : Dx) (hT : Nat) (aT : Nat → Nat) (yT : Nat → ClassId) (aT_0 : Nat → Nat) (yT_0 : Nat → ClassId) (n : Nat) : ∀ k, SH_X7_readWord l D hT aT yT aT_0 yT_0 (L_X7_readWord n k)
  | 0 => fun _ _ _ h => by cases h
  | k + 1 => k_X7_readWord_5 l D hT aT yT aT_0 yT_0 n _ (kL_X7_readWord l D hT aT yT aT_0 yT_0 n k)
set_option maxHeartbeats 4000000 in
set_option maxRecDepth 100000 in
theorem c_X7_readWord (l : Launch) (D : Dx) (hT : Nat) (aT : Nat → Nat) (yT : Nat → ClassId) (aT_0 : Nat → Nat) (yT_0 : Nat → ClassId) (n : Nat) (gT : Gs) (gT_0 : Gs) (q : Gs) (hF : f_X7_readWord n gT gT_0 = some q) (sz : Nat) : Met l yX7_readWord (ws_ yX7_readWord cX7_readWord 2 none) R_X7_readWord (PC D (tX7 yT ++ (tTP yT_0)) [.ref hT] (wX7 hT aT yT gT ++ (wTP (aT 0) aT_0 yT_0 gT_0)) sz) (QV D (va_A (wX7 hT aT yT gT ++ (wTP (aT 0) aT_0 yT_0 gT_0)) sz) (wX7 hT aT yT q ++ (wTP (aT 0) aT_0 yT_0 gT_0))) 0 0 (va_A (wX7 hT aT yT gT ++ (wTP (aT 0) aT_0 yT_0 gT_0)) sz) := by
  refine Met.ofW (cc := cX7_readWord) (maxL := 2) (ret := none) (by decide) rfl ?_
  intro p e s m args below meth c s₁ B hml hv
  obtain ⟨rfl, hsz, hP, hK, hD, hN⟩ := hv
  subst hsz
  have C : Cx p s m _ meth c cX7_readWord none 2 RX7 lw_all := Cx_of B hml
  have X := Hx_start hP hK hD hN
  obtain ⟨hx, hb, hr, -, hown, hts, hlk⟩ := id C
  generalize va_A (wX7 hT aT yT gT ++ (wTP (aT 0) aT_0 yT_0 gT_0)) s.heap.size = A at X ⊢
  have hl := lv_entry ([.ref hT]) (n := 2) (Nat.le_of_ble_eq_true rfl)
  rw [lg_entry_eq]
  generalize (lg_sl ([.ref hT]) ++ List.replicate (2 - (lg_sl ([.ref hT])).length) Slot.unset).toArray = ls at hl ⊢
  have hl : lv_has ls 2 [(0, .ref hT)] := hl
  unfold f_X7_readWord at hF
  refine lv_aload_n hx hb dX7_readWord_0 rfl (lv_at hl 0 rfl) ?_
  refine va_get (D := D.1) (ci := 7) (v := .int (gI gT 3)) (C := RX7) (T := TX7) (N := 12) hx hb hts wi_X7 hown X.1 X.2.1 0 rfl rfl 3 (by decide) (hts _ q2_238) (fun _ h9 => h9) (fl_get (by decide)) dX7_readWord_1 ?_
  refine lv_istore_n (lv' := [(1, .int (gI gT 3)), (0, .ref hT)]) hx hb dX7_readWord_4 rfl hl (by decide) rfl (fun ls hl => ?_)
  exact (kL_X7_readWord l D hT aT yT aT_0 yT_0 n n) C X (lv_sub hl [1, 0] rfl) hF

/-! ### X7_pairKind -/
theorem dX7_pairKind_0 : decode cX7_pairKind 0 = .ok (.iload_n 1, 1) := by decide +kernel
theorem dX7_pairKind_1 : decode cX7_pairKind 1 = .ok (.bipush 61, 2) := by decide +kernel
theorem dX7_pairKind_3 : decode cX7_pairKind 3 = .ok (.if_icmp .ne 59, 3) := by decide +kernel
theorem dX7_pairKind_6 : decode cX7_pairKind 6 = .ok (.iload_n 0, 1) := by decide +kernel
theorem dX7_pairKind_7 : decode cX7_pairKind 7 = .ok (.lookupswitch 53 #[(33, 50), (60, 41), (61, 47), (62, 44)], 41) := by decide +kernel
theorem dX7_pairKind_48 : decode cX7_pairKind 48 = .ok (.bipush 57, 2) := by decide +kernel
theorem dX7_pairKind_50 : decode cX7_pairKind 50 = .ok (.ireturn, 1) := by decide +kernel
theorem dX7_pairKind_51 : decode cX7_pairKind 51 = .ok (.bipush 58, 2) := by decide +kernel
theorem dX7_pairKind_53 : decode cX7_pairKind 53 = .ok (.ireturn, 1) := by decide +kernel
theorem dX7_pairKind_54 : decode cX7_pairKind 54 = .ok (.bipush 59, 2) := by decide +kernel
theorem dX7_pairKind_56 : decode cX7_pairKind 56 = .ok (.ireturn, 1) := by decide +kernel
theorem dX7_pairKind_57 : decode cX7_pairKind 57 = .ok (.bipush 60, 2) := by decide +kernel
theorem dX7_pairKind_59 : decode cX7_pairKind 59 = .ok (.ireturn, 1) := by decide +kernel
theorem dX7_pairKind_60 : decode cX7_pairKind 60 = .ok (.iconst 1, 1) := by decide +kernel
theorem dX7_pairKind_61 : decode cX7_pairKind 61 = .ok (.ireturn, 1) := by decide +kernel
theorem dX7_pairKind_62 : decode cX7_pairKind 62 = .ok (.iload_n 0, 1) := by decide +kernel
theorem dX7_pairKind_63 : decode cX7_pairKind 63 = .ok (.iload_n 1, 1) := by decide +kernel
theorem dX7_pairKind_64 : decode cX7_pairKind 64 = .ok (.if_icmp .eq 5, 3) := by decide +kernel
theorem dX7_pairKind_67 : decode cX7_pairKind 67 = .ok (.iconst 1, 1) := by decide +kernel
theorem dX7_pairKind_68 : decode cX7_pairKind 68 = .ok (.ireturn, 1) := by decide +kernel
theorem dX7_pairKind_69 : decode cX7_pairKind 69 = .ok (.iload_n 0, 1) := by decide +kernel
theorem dX7_pairKind_70 : decode cX7_pairKind 70 = .ok (.bipush 38, 2) := by decide +kernel
theorem dX7_pairKind_72 : decode cX7_pairKind 72 = .ok (.if_icmp .ne 8, 3) := by decide +kernel
theorem dX7_pairKind_75 : decode cX7_pairKind 75 = .ok (.bipush 61, 2) := by decide +kernel
theorem dX7_pairKind_77 : decode cX7_pairKind 77 = .ok (.goto 15, 3) := by decide +kernel
theorem dX7_pairKind_80 : decode cX7_pairKind 80 = .ok (.iload_n 0, 1) := by decide +kernel
theorem dX7_pairKind_81 : decode cX7_pairKind 81 = .ok (.bipush 124, 2) := by decide +kernel
theorem dX7_pairKind_83 : decode cX7_pairKind 83 = .ok (.if_icmp .ne 8, 3) := by decide +kernel
theorem dX7_pairKind_86 : decode cX7_pairKind 86 = .ok (.bipush 62, 2) := by decide +kernel
theorem dX7_pairKind_88 : decode cX7_pairKind 88 = .ok (.goto 4, 3) := by decide +kernel
theorem dX7_pairKind_91 : decode cX7_pairKind 91 = .ok (.iconst 1, 1) := by decide +kernel
theorem dX7_pairKind_92 : decode cX7_pairKind 92 = .ok (.ireturn, 1) := by decide +kernel
abbrev R_X7_pairKind : Room := ({ frames := 0, cells := 0, slots := 0, locals := 0 } : Room)
def f_X7_pairKind (x0 : Int32) (x1 : Int32) : Option (Int32) :=
  if x1 = (61 : Int32) then (if x0 = (33 : Int32) then (some (60 : Int32)) else (if x0 = (60 : Int32) then (some (57 : Int32)) else (if x0 = (61 : Int32) then (some (59 : Int32)) else (if x0 = (62 : Int32) then (some (58 : Int32)) else (some (1 : Int32)))))) else (if x0 = x1 then (if x0 = (38 : Int32) then (some (61 : Int32)) else (if x0 = (124 : Int32) then (some (62 : Int32)) else (some (1 : Int32)))) else (some (1 : Int32)))
set_option maxHeartbeats 4000000 in
set_option maxRecDepth 100000 in
theorem c_X7_pairKind (l : Launch) (D : Dx) (x0 : Int32) (x1 : Int32) (q : Int32) (hF : f_X7_pairKind x0 x1 = some q) (sz : Nat) : Met l yX7_pairKind (ws_ yX7_pairKind cX7_pairKind 2 (some .int)) R_X7_pairKind (PC D ([]) [.int x0, .int x1] ([]) sz) (QI D (va_A ([]) sz) ([]) q) 0 0 (va_A ([]) sz) := by
  refine Met.ofW (cc := cX7_pairKind) (maxL := 2) (ret := (some .int)) (by decide) rfl ?_
  intro p e s m args below meth c s₁ B hml hv
  obtain ⟨rfl, hsz, hP, hK, hD, hN⟩ := hv
  subst hsz
  have C : Cx p s m _ meth c cX7_pairKind (some .int) 2 RX7 lw_all := Cx_of B hml
  have X := Hx_start hP hK hD hN
  obtain ⟨hx, hb, hr, -, hown, hts, hlk⟩ := id C
  generalize va_A ([]) s.heap.size = A at X ⊢
  have hl := lv_entry ([.int x0, .int x1]) (n := 2) (Nat.le_of_ble_eq_true rfl)
  rw [lg_entry_eq]
  generalize (lg_sl ([.int x0, .int x1]) ++ List.replicate (2 - (lg_sl ([.int x0, .int x1])).length) Slot.unset).toArray = ls at hl ⊢
  have hl : lv_has ls 2 [(0, .int x0), (1, .int x1)] := hl
  unfold f_X7_pairKind at hF
  refine lv_iload_n hx hb dX7_pairKind_0 rfl (lv_at hl 1 rfl) ?_
  refine lv_bipush (v := (61 : Int32)) hx hb dX7_pairKind_1 (by decide) ?_
  refine lv_icmp_ne (tgt := 62) hx hb dX7_pairKind_3 (by decide) (fun c => ?_) (fun c => ?_)
  · replace hF := iF c hF
    refine lv_iload_n hx hb dX7_pairKind_62 rfl (lv_at hl 0 rfl) ?_
    refine lv_iload_n hx hb dX7_pairKind_63 rfl (lv_at hl 1 rfl) ?_
    refine lv_icmp_eq (tgt := 69) hx hb dX7_pairKind_64 (by decide) (fun c => ?_) (fun c => ?_)
    · replace hF := iT c hF
      refine lv_iload_n hx hb dX7_pairKind_69 rfl (lv_at hl 0 rfl) ?_
      refine lv_bipush (v := (38 : Int32)) hx hb dX7_pairKind_70 (by decide) ?_
      refine lv_icmp_ne (tgt := 80) hx hb dX7_pairKind_72 (by decide) (fun c => ?_) (fun c => ?_)
      · replace hF := iF c hF
        refine lv_iload_n hx hb dX7_pairKind_80 rfl (lv_at hl 0 rfl) ?_
        refine lv_bipush (v := (124 : Int32)) hx hb dX7_pairKind_81 (by decide) ?_
        refine lv_icmp_ne (tgt := 91) hx hb dX7_pairKind_83 (by decide) (fun c => ?_) (fun c => ?_)
        · replace hF := iF c hF
          refine lv_iconst (v := (1 : Int32)) hx hb dX7_pairKind_91 (by decide) ?_
          have hq := Option.some.inj hF
          subst hq
          exact rt_i C X dX7_pairKind_92
        · replace hF := iT c hF
          refine lv_bipush (v := (62 : Int32)) hx hb dX7_pairKind_86 (by decide) ?_
          refine lv_goto (tgt := 92) hx hb dX7_pairKind_88 (by decide) ?_
          have hq := Option.some.inj hF
          subst hq
          exact rt_i C X dX7_pairKind_92
      · replace hF := iT c hF
        refine lv_bipush (v := (61 : Int32)) hx hb dX7_pairKind_75 (by decide) ?_
        refine lv_goto (tgt := 92) hx hb dX7_pairKind_77 (by decide) ?_
        have hq := Option.some.inj hF
        subst hq
        exact rt_i C X dX7_pairKind_92
    · replace hF := iF c hF
      refine lv_iconst (v := (1 : Int32)) hx hb dX7_pairKind_67 (by decide) ?_
      have hq := Option.some.inj hF
      subst hq
      exact rt_i C X dX7_pairKind_68
  · replace hF := iT c hF
    refine lv_iload_n hx hb dX7_pairKind_6 rfl (lv_at hl 0 rfl) ?_
    by_cases c33 : x0 = (33 : Int32)
    · replace hF := iT c33 hF
      refine lv_lookup (tgt := 57) (off := 50) hx hb dX7_pairKind_7 (by decide) (by rw [c33]; rfl) (by decide) ?_
      refine lv_bipush (v := (60 : Int32)) hx hb dX7_pairKind_57 (by decide) ?_
      have hq := Option.some.inj hF
      subst hq
      exact rt_i C X dX7_pairKind_59
    · replace hF := iF c33 hF
      by_cases c60 : x0 = (60 : Int32)
      · replace hF := iT c60 hF
        refine lv_lookup (tgt := 48) (off := 41) hx hb dX7_pairKind_7 (by decide) (by rw [c60]; rfl) (by decide) ?_
        refine lv_bipush (v := (57 : Int32)) hx hb dX7_pairKind_48 (by decide) ?_
        have hq := Option.some.inj hF
        subst hq
        exact rt_i C X dX7_pairKind_50
      · replace hF := iF c60 hF
        by_cases c61 : x0 = (61 : Int32)
        · replace hF := iT c61 hF
          refine lv_lookup (tgt := 54) (off := 47) hx hb dX7_pairKind_7 (by decide) (by rw [c61]; rfl) (by decide) ?_
          refine lv_bipush (v := (59 : Int32)) hx hb dX7_pairKind_54 (by decide) ?_
          have hq := Option.some.inj hF
          subst hq
          exact rt_i C X dX7_pairKind_56
        · replace hF := iF c61 hF
          by_cases c62 : x0 = (62 : Int32)
          · replace hF := iT c62 hF
            refine lv_lookup (tgt := 51) (off := 44) hx hb dX7_pairKind_7 (by decide) (by rw [c62]; rfl) (by decide) ?_
            refine lv_bipush (v := (58 : Int32)) hx hb dX7_pairKind_51 (by decide) ?_
            have hq := Option.some.inj hF
            subst hq
            exact rt_i C X dX7_pairKind_53
          · replace hF := iF c62 hF
            refine lv_lookup (tgt := 60) (off := 53) hx hb dX7_pairKind_7 (by decide) (lkc (tneS c33 (by decide)) (lkc (tneS c60 (by decide)) (lkc (tneS c61 (by decide)) (lkc (tneS c62 (by decide)) lkn)))) (by decide) ?_
            refine lv_iconst (v := (1 : Int32)) hx hb dX7_pairKind_60 (by decide) ?_
            have hq := Option.some.inj hF
            subst hq
            exact rt_i C X dX7_pairKind_61

/-! ### X7_readSign -/
theorem dX7_readSign_0 : decode cX7_readSign 0 = .ok (.aload_n 0, 1) := by decide +kernel
theorem dX7_readSign_1 : decode cX7_readSign 1 = .ok (.aload_n 0, 1) := by decide +kernel
theorem dX7_readSign_2 : decode cX7_readSign 2 = .ok (.getfield 15, 3) := by decide +kernel
theorem dX7_readSign_5 : decode cX7_readSign 5 = .ok (.iconst 1, 1) := by decide +kernel
theorem dX7_readSign_6 : decode cX7_readSign 6 = .ok (.iadd, 1) := by decide +kernel
theorem dX7_readSign_7 : decode cX7_readSign 7 = .ok (.invokevirtual 62, 3) := by decide +kernel
theorem dX7_readSign_10 : decode cX7_readSign 10 = .ok (.istore_n 2, 1) := by decide +kernel
theorem dX7_readSign_11 : decode cX7_readSign 11 = .ok (.ldc 98, 2) := by decide +kernel
theorem dX7_readSign_13 : decode cX7_readSign 13 = .ok (.iload_n 1, 1) := by decide +kernel
theorem dX7_readSign_14 : decode cX7_readSign 14 = .ok (.i2c, 1) := by decide +kernel
theorem dX7_readSign_15 : decode cX7_readSign 15 = .ok (.invokevirtual 100, 3) := by decide +kernel
theorem dX7_readSign_18 : decode cX7_readSign 18 = .ok (.istore_n 3, 1) := by decide +kernel
theorem dX7_readSign_19 : decode cX7_readSign 19 = .ok (.aload_n 0, 1) := by decide +kernel
theorem dX7_readSign_20 : decode cX7_readSign 20 = .ok (.iload_n 3, 1) := by decide +kernel
theorem dX7_readSign_21 : decode cX7_readSign 21 = .ok (.ifCond .ge 7, 3) := by decide +kernel
theorem dX7_readSign_24 : decode cX7_readSign 24 = .ok (.iconst 1, 1) := by decide +kernel
theorem dX7_readSign_25 : decode cX7_readSign 25 = .ok (.goto 7, 3) := by decide +kernel
theorem dX7_readSign_28 : decode cX7_readSign 28 = .ok (.bipush 40, 2) := by decide +kernel
theorem dX7_readSign_30 : decode cX7_readSign 30 = .ok (.iload_n 3, 1) := by decide +kernel
theorem dX7_readSign_31 : decode cX7_readSign 31 = .ok (.iadd, 1) := by decide +kernel
theorem dX7_readSign_32 : decode cX7_readSign 32 = .ok (.putfield 18, 3) := by decide +kernel
theorem dX7_readSign_35 : decode cX7_readSign 35 = .ok (.iload_n 1, 1) := by decide +kernel
theorem dX7_readSign_36 : decode cX7_readSign 36 = .ok (.iload_n 2, 1) := by decide +kernel
theorem dX7_readSign_37 : decode cX7_readSign 37 = .ok (.invokestatic 103, 3) := by decide +kernel
theorem dX7_readSign_40 : decode cX7_readSign 40 = .ok (.istore 4, 2) := by decide +kernel
theorem dX7_readSign_42 : decode cX7_readSign 42 = .ok (.iload 4, 2) := by decide +kernel
theorem dX7_readSign_44 : decode cX7_readSign 44 = .ok (.iconst 1, 1) := by decide +kernel
theorem dX7_readSign_45 : decode cX7_readSign 45 = .ok (.if_icmp .eq 19, 3) := by decide +kernel
theorem dX7_readSign_48 : decode cX7_readSign 48 = .ok (.aload_n 0, 1) := by decide +kernel
theorem dX7_readSign_49 : decode cX7_readSign 49 = .ok (.iload 4, 2) := by decide +kernel
theorem dX7_readSign_51 : decode cX7_readSign 51 = .ok (.putfield 18, 3) := by decide +kernel
theorem dX7_readSign_54 : decode cX7_readSign 54 = .ok (.aload_n 0, 1) := by decide +kernel
theorem dX7_readSign_55 : decode cX7_readSign 55 = .ok (.dup, 1) := by decide +kernel
theorem dX7_readSign_56 : decode cX7_readSign 56 = .ok (.getfield 15, 3) := by decide +kernel
theorem dX7_readSign_59 : decode cX7_readSign 59 = .ok (.iconst 1, 1) := by decide +kernel
theorem dX7_readSign_60 : decode cX7_readSign 60 = .ok (.iadd, 1) := by decide +kernel
theorem dX7_readSign_61 : decode cX7_readSign 61 = .ok (.putfield 15, 3) := by decide +kernel
theorem dX7_readSign_64 : decode cX7_readSign 64 = .ok (.aload_n 0, 1) := by decide +kernel
theorem dX7_readSign_65 : decode cX7_readSign 65 = .ok (.dup, 1) := by decide +kernel
theorem dX7_readSign_66 : decode cX7_readSign 66 = .ok (.getfield 15, 3) := by decide +kernel
theorem dX7_readSign_69 : decode cX7_readSign 69 = .ok (.iconst 1, 1) := by decide +kernel
theorem dX7_readSign_70 : decode cX7_readSign 70 = .ok (.iadd, 1) := by decide +kernel
theorem dX7_readSign_71 : decode cX7_readSign 71 = .ok (.putfield 15, 3) := by decide +kernel
theorem dX7_readSign_74 : decode cX7_readSign 74 = .ok (.return_, 1) := by decide +kernel
abbrev R_X7_readSign : Room := ({ frames := 4, cells := 0, slots := 0, locals := 130 } : Room)
def b_X7_readSign_64 (n : Nat) (gT : Gs) (gT_0 : Gs) : Option (Gs) :=
  some (sI gT 3 ((gI gT 3) + (1 : Int32)))
def b_X7_readSign_32 (n : Nat) (gT : Gs) (gT_0 : Gs) (v1 : Int32) (v2 : Int32) (s0 : Int32) : Option (Gs) :=
  bnd (f_X7_pairKind v1 v2) (fun q_5 => if q_5 = (1 : Int32) then (b_X7_readSign_64 n (sI gT 4 s0) gT_0) else (b_X7_readSign_64 n (sI (sI (sI gT 4 s0) 4 q_5) 3 ((gI gT 3) + (1 : Int32))) gT_0))
def f_X7_readSign (n : Nat) (gT : Gs) (gT_0 : Gs) (x0 : Int32) : Option (Gs) :=
  bnd (f_X7_byteAt gT gT_0 ((gI gT 3) + (1 : Int32))) (fun q_1 => bnd (f_J0_indexOf_0f7a4__S1 n ((x0.toUInt32 % 65536).toInt32)) (fun q_3 => if 0 ≤ q_3 then (b_X7_readSign_32 n gT gT_0 x0 q_1 ((40 : Int32) + q_3)) else (b_X7_readSign_32 n gT gT_0 x0 q_1 (1 : Int32))))
def S_X7_readSign_64 (l : Launch) (D : Dx) (hT : Nat) (aT : Nat → Nat) (yT : Nat → ClassId) (aT_0 : Nat → Nat) (yT_0 : Nat → ClassId) (fn : Gs → Gs → Option (Gs)) : Prop :=
  ∀ {p : Program} {e : Env} {s : State} {m : MethodId} {args : Array Value} {below : List Frame} {meth : Method} {c : Code} {H : Heap} {locs : List Loc} {A : Nat → Prop} {ls : Array Slot} {gT : Gs} {gT_0 : Gs} {q : Gs}, Cx p s m args meth c cX7_readSign none 5 RX7 lw_all → Hx D (tX7 yT ++ (tTP yT_0)) A s H locs (wX7 hT aT yT gT ++ (wTP (aT 0) aT_0 yT_0 gT_0)) → lv_has ls 5 [(0, .ref hT)] → fn gT gT_0 = some q → W p l e R_X7_readSign s m args below meth c H locs 0 0 (MQ below (QV D A (wX7 hT aT yT q ++ (wTP (aT 0) aT_0 yT_0 gT_0))) args s 0 0 A) (F0 m 64 ls [])
def S_X7_readSign_32 (l : Launch) (D : Dx) (hT : Nat) (aT : Nat → Nat) (yT : Nat → ClassId) (aT_0 : Nat → Nat) (yT_0 : Nat → ClassId) (fn : Gs → Gs → Int32 → Int32 → Int32 → Option (Gs)) : Prop :=
  ∀ {p : Program} {e : Env} {s : State} {m : MethodId} {args : Array Value} {below : List Frame} {meth : Method} {c : Code} {H : Heap} {locs : List Loc} {A : Nat → Prop} {ls : Array Slot} {gT : Gs} {gT_0 : Gs} {v1 : Int32} {v2 : Int32} {s0 : Int32} {q : Gs}, Cx p s m args meth c cX7_readSign none 5 RX7 lw_all → Hx D (tX7 yT ++ (tTP yT_0)) A s H locs (wX7 hT aT yT gT ++ (wTP (aT 0) aT_0 yT_0 gT_0)) → lv_has ls 5 [(0, .ref hT), (1, .int v1), (2, .int v2)] → fn gT gT_0 v1 v2 s0 = some q → W p l e R_X7_readSign s m args below meth c H locs 0 0 (MQ below (QV D A (wX7 hT aT yT q ++ (wTP (aT 0) aT_0 yT_0 gT_0))) args s 0 0 A) (F0 m 32 ls [.int s0, .ref hT])
set_option maxHeartbeats 4000000 in
set_option maxRecDepth 100000 in
theorem k_X7_readSign_64 (l : Launch) (D : Dx) (hT : Nat) (aT : Nat → Nat) (yT : Nat → ClassId) (aT_0 : Nat → Nat) (yT_0 : Nat → ClassId) (n : Nat) : S_X7_readSign_64 l D hT aT yT aT_0 yT_0 (b_X7_readSign_64 n) := by
  intro p e s m args below meth c H locs A ls gT gT_0 q C X hl hF
  obtain ⟨hx, hb, hr, hml, hown, hts, hlk⟩ := id C
  unfold b_X7_readSign_64 at hF
  refine lv_aload_n hx hb dX7_readSign_64 rfl (lv_at hl 0 rfl) ?_
  refine lv_dup hx hb dX7_readSign_65 rfl ?_
  refine va_get (D := D.1) (ci := 7) (v := .int (gI gT 3)) (C := RX7) (T := TX7) (N := 12) hx hb hts wi_X7 hown X.1 X.2.1 0 rfl rfl 3 (by decide) (hts _ q2_238) (fun _ h9 => h9) (fl_get (by decide)) dX7_readSign_66 ?_
  refine lv_iconst (v := (1 : Int32)) hx hb dX7_readSign_69 (by decide) ?_
  refine lv_iadd hx hb dX7_readSign_70 ?_
  refine va_put (D := D.1) (ci := 7) (v := .int ((gI gT 3) + (1 : Int32))) (ty := .int) (C := RX7) (T := TX7) (N := 12) hx hb hts wi_X7 tyX7 tyX7_ok nmX7 hown X.1 X.2.1 X.2.2.1 X.2.2.2.1 0 rfl rfl 3 (by decide) (hts _ q2_238) (fun _ h9 => h9) rfl (by decide +kernel) rfl rfl (by rw [List.length_map, List.length_range]; decide) dX7_readSign_71 (fun H locs hP hD hS => ?_)
  have X : Hx D (tX7 yT ++ (tTP yT_0)) A s H locs (wX7 hT aT yT (sI gT 3 ((gI gT 3) + (1 : Int32))) ++ (wTP (aT 0) aT_0 yT_0 gT_0)) := Hx_set X (set_l (by rw [wG_len (m := 1) rfl]; decide) (wG_sI (k := 3) rfl)) hP hD hS
  have hq := Option.some.inj hF
  subst hq
  exact rt_v C X dX7_readSign_74
set_option maxHeartbeats 4000000 in
set_option maxRecDepth 100000 in
theorem k_X7_readSign_32 (l : Launch) (D : Dx) (hT : Nat) (aT : Nat → Nat) (yT : Nat → ClassId) (aT_0 : Nat → Nat) (yT_0 : Nat → ClassId) (n : Nat) : S_X7_readSign_32 l D hT aT yT aT_0 yT_0 (b_X7_readSign_32 n) := by
  intro p e s m args below meth c H locs A ls gT gT_0 v1 v2 s0 q C X hl hF
  obtain ⟨hx, hb, hr, hml, hown, hts, hlk⟩ := id C
  unfold b_X7_readSign_32 at hF
  refine va_put (D := D.1) (ci := 7) (v := .int s0) (ty := .int) (C := RX7) (T := TX7) (N := 12) hx hb hts wi_X7 tyX7 tyX7_ok nmX7 hown X.1 X.2.1 X.2.2.1 X.2.2.2.1 0 rfl rfl 4 (by decide) (hts _ q2_239) (fun _ h9 => h9) rfl (by decide +kernel) rfl rfl (by rw [List.length_map, List.length_range]; decide) dX7_readSign_32 (fun H locs hP hD hS => ?_)
  have X : Hx D (tX7 yT ++ (tTP yT_0)) A s H locs (wX7 hT aT yT (sI gT 4 s0) ++ (wTP (aT 0) aT_0 yT_0 gT_0)) := Hx_set X (set_l (by rw [wG_len (m := 1) rfl]; decide) (wG_sI (k := 4) rfl)) hP hD hS
  refine lv_iload_n hx hb dX7_readSign_35 rfl (lv_at hl 1 rfl) ?_
  refine lv_iload_n hx hb dX7_readSign_36 rfl (lv_at hl 2 rfl) ?_
  obtain ⟨q_5, hc_6, hF⟩ := bnd_some hF
  refine cS_i (As := [.int v1, .int v2]) (rest := []) C X (c_X7_pairKind l D  v1 v2 q_5 hc_6 _) (va_cwS 2 hts (good_S q4_54 q4_55 q1_12 q4_56) rfl rfl rfl (by decide +kernel) ⟨Nat.le_of_ble_eq_true rfl, Nat.le_of_ble_eq_true rfl⟩) (eK X) eP (eD (A := A)) (eF X) hl.1 rfl rfl (Nat.le_of_ble_eq_true rfl) dX7_readSign_37 ⟨Nat.le_of_ble_eq_true rfl, Nat.le_of_ble_eq_true rfl⟩ (fun t H1 locs1 ht hB hk hS => ?_)
  have X := Hx_after_none X hk hS
  clear hk hS ht hB
  generalize H1 = H at X ⊢
  generalize locs1 = locs at X ⊢
  refine lv_istore (lv' := [(4, .int q_5), (0, .ref hT), (1, .int v1), (2, .int v2)]) hx hb dX7_readSign_40 hl (by decide) rfl (fun ls hl => ?_)
  refine lv_iload hx hb dX7_readSign_42 (lv_at hl 0 rfl) ?_
  refine lv_iconst (v := (1 : Int32)) hx hb dX7_readSign_44 (by decide) ?_
  refine lv_icmp_eq (tgt := 64) hx hb dX7_readSign_45 (by decide) (fun c => ?_) (fun c => ?_)
  · replace hF := iT c hF
    exact (k_X7_readSign_64 l D hT aT yT aT_0 yT_0 n) C X (lv_sub hl [1] rfl) hF
  · replace hF := iF c hF
    refine lv_aload_n hx hb dX7_readSign_48 rfl (lv_at hl 1 rfl) ?_
    refine lv_iload hx hb dX7_readSign_49 (lv_at hl 0 rfl) ?_
    refine va_put (D := D.1) (ci := 7) (v := .int q_5) (ty := .int) (C := RX7) (T := TX7) (N := 12) hx hb hts wi_X7 tyX7 tyX7_ok nmX7 hown X.1 X.2.1 X.2.2.1 X.2.2.2.1 0 rfl rfl 4 (by decide) (hts _ q2_239) (fun _ h9 => h9) rfl (by decide +kernel) rfl rfl (by rw [List.length_map, List.length_range]; decide) dX7_readSign_51 (fun H locs hP hD hS => ?_)
    have X : Hx D (tX7 yT ++ (tTP yT_0)) A s H locs (wX7 hT aT yT (sI (sI gT 4 s0) 4 q_5) ++ (wTP (aT 0) aT_0 yT_0 gT_0)) := Hx_set X (set_l (by rw [wG_len (m := 1) rfl]; decide) (wG_sI (k := 4) rfl)) hP hD hS
    refine lv_aload_n hx hb dX7_readSign_54 rfl (lv_at hl 1 rfl) ?_
    refine lv_dup hx hb dX7_readSign_55 rfl ?_
    refine va_get (D := D.1) (ci := 7) (v := .int (gI gT 3)) (C := RX7) (T := TX7) (N := 12) hx hb hts wi_X7 hown X.1 X.2.1 0 rfl rfl 3 (by decide) (hts _ q2_238) (fun _ h9 => h9) (fl_get (by decide)) dX7_readSign_56 ?_
    refine lv_iconst (v := (1 : Int32)) hx hb dX7_readSign_59 (by decide) ?_
    refine lv_iadd hx hb dX7_readSign_60 ?_
    refine va_put (D := D.1) (ci := 7) (v := .int ((gI gT 3) + (1 : Int32))) (ty := .int) (C := RX7) (T := TX7) (N := 12) hx hb hts wi_X7 tyX7 tyX7_ok nmX7 hown X.1 X.2.1 X.2.2.1 X.2.2.2.1 0 rfl rfl 3 (by decide) (hts _ q2_238) (fun _ h9 => h9) rfl (by decide +kernel) rfl rfl (by rw [List.length_map, List.length_range]; decide) dX7_readSign_61 (fun H locs hP hD hS => ?_)
    have X : Hx D (tX7 yT ++ (tTP yT_0)) A s H locs (wX7 hT aT yT (sI (sI (sI gT 4 s0) 4 q_5) 3 ((gI gT 3) + (1 : Int32))) ++ (wTP (aT 0) aT_0 yT_0 gT_0)) := Hx_set X (set_l (by rw [wG_len (m := 1) rfl]; decide) (wG_sI (k := 3) rfl)) hP hD hS
    exact (k_X7_readSign_64 l D hT aT yT aT_0 yT_0 n) C X (lv_sub hl [1] rfl) hF
set_option maxHeartbeats 4000000 in
set_option maxRecDepth 100000 in
theorem c_X7_readSign (l : Launch) (D : Dx) (hT : Nat) (aT : Nat → Nat) (yT : Nat → ClassId) (aT_0 : Nat → Nat) (yT_0 : Nat → ClassId) (n : Nat) (gT : Gs) (gT_0 : Gs) (x0 : Int32) (q : Gs) (hF : f_X7_readSign n gT gT_0 x0 = some q) (sz : Nat) : Met l yX7_readSign (ws_ yX7_readSign cX7_readSign 5 none) R_X7_readSign (PC D (tX7 yT ++ (tTP yT_0)) [.ref hT, .int x0] (wX7 hT aT yT gT ++ (wTP (aT 0) aT_0 yT_0 gT_0)) sz) (QV D (va_A (wX7 hT aT yT gT ++ (wTP (aT 0) aT_0 yT_0 gT_0)) sz) (wX7 hT aT yT q ++ (wTP (aT 0) aT_0 yT_0 gT_0))) 0 0 (va_A (wX7 hT aT yT gT ++ (wTP (aT 0) aT_0 yT_0 gT_0)) sz) := by
  refine Met.ofW (cc := cX7_readSign) (maxL := 5) (ret := none) (by decide) rfl ?_
  intro p e s m args below meth c s₁ B hml hv
  obtain ⟨rfl, hsz, hP, hK, hD, hN⟩ := hv
  subst hsz
  have C : Cx p s m _ meth c cX7_readSign none 5 RX7 lw_all := Cx_of B hml
  have X := Hx_start hP hK hD hN
  obtain ⟨hx, hb, hr, -, hown, hts, hlk⟩ := id C
  generalize va_A (wX7 hT aT yT gT ++ (wTP (aT 0) aT_0 yT_0 gT_0)) s.heap.size = A at X ⊢
  have hl := lv_entry ([.ref hT, .int x0]) (n := 5) (Nat.le_of_ble_eq_true rfl)
  rw [lg_entry_eq]
  generalize (lg_sl ([.ref hT, .int x0]) ++ List.replicate (5 - (lg_sl ([.ref hT, .int x0])).length) Slot.unset).toArray = ls at hl ⊢
  have hl : lv_has ls 5 [(0, .ref hT), (1, .int x0)] := hl
  unfold f_X7_readSign at hF
  refine lv_aload_n hx hb dX7_readSign_0 rfl (lv_at hl 0 rfl) ?_
  refine lv_aload_n hx hb dX7_readSign_1 rfl (lv_at hl 0 rfl) ?_
  refine va_get (D := D.1) (ci := 7) (v := .int (gI gT 3)) (C := RX7) (T := TX7) (N := 12) hx hb hts wi_X7 hown X.1 X.2.1 0 rfl rfl 3 (by decide) (hts _ q2_238) (fun _ h9 => h9) (fl_get (by decide)) dX7_readSign_2 ?_
  refine lv_iconst (v := (1 : Int32)) hx hb dX7_readSign_5 (by decide) ?_
  refine lv_iadd hx hb dX7_readSign_6 ?_
  obtain ⟨q_1, hc_2, hF⟩ := bnd_some hF
  refine cV_i (As := [.int ((gI gT 3) + (1 : Int32))]) (rest := []) C X (c_X7_byteAt l D hT aT yT aT_0 yT_0 gT gT_0 ((gI gT 3) + (1 : Int32)) q_1 hc_2 _) (cwV 1 hts (good_V q3_134 q3_136 q0_3 q1_12 q3_137) rfl rfl rfl (by decide +kernel) ⟨Nat.le_of_ble_eq_true rfl, Nat.le_of_ble_eq_true rfl⟩) (va_recv X.1 X.2.1 (ci := 7) (q0 := 0) rfl rfl) X.1 X.2.1 X.2.2.1 (free_all X) hl.1 rfl rfl (Nat.le_of_ble_eq_true rfl) dX7_readSign_7 ⟨Nat.le_of_ble_eq_true rfl, Nat.le_of_ble_eq_true rfl⟩ (fun t H1 locs1 ht hB hk hS => ?_)
  have X : Hx D (tX7 yT ++ (tTP yT_0)) A s H1 locs1 (wX7 hT aT yT gT ++ (wTP (aT 0) aT_0 yT_0 gT_0)) := Hx_after_all X ht hB hS
  clear hk hS ht hB
  generalize H1 = H at X ⊢
  generalize locs1 = locs at X ⊢
  refine lv_istore_n (lv' := [(2, .int q_1), (0, .ref hT), (1, .int x0)]) hx hb dX7_readSign_10 rfl hl (by decide) rfl (fun ls hl => ?_)
  refine va_ldcS hx hb hown X.2.2.2.2.2.2.2.2.2.2.1 dX7_readSign_11 ?_
  refine lv_iload_n hx hb dX7_readSign_13 rfl (lv_at hl 2 rfl) ?_
  refine lv_i2c hx hb dX7_readSign_14 rfl ?_
  obtain ⟨q_3, hc_4, hF⟩ := bnd_some hF
  refine cV_i (As := [.int ((x0.toUInt32 % 65536).toInt32)]) (rest := []) C X (c_J0_indexOf_0f7a4__S1 l D  n ((x0.toUInt32 % 65536).toInt32) q_3 hc_4 _) (cwV 1 hts (good_V q3_230 q3_231 q3_232 q1_15 q3_233) rfl rfl rfl (by decide +kernel) ⟨Nat.le_of_ble_eq_true rfl, Nat.le_of_ble_eq_true rfl⟩) (vk_recv (i := 1) X.2.2.2.2.2.2.2.2.1 (by decide) X.2.2.2.1) (eK X) eP (eD (A := A)) (eF X) hl.1 rfl rfl (Nat.le_of_ble_eq_true rfl) dX7_readSign_15 ⟨Nat.le_of_ble_eq_true rfl, Nat.le_of_ble_eq_true rfl⟩ (fun t H1 locs1 ht hB hk hS => ?_)
  have X := Hx_after_none X hk hS
  clear hk hS ht hB
  generalize H1 = H at X ⊢
  generalize locs1 = locs at X ⊢
  refine lv_istore_n (lv' := [(3, .int q_3), (2, .int q_1), (0, .ref hT), (1, .int x0)]) hx hb dX7_readSign_18 rfl hl (by decide) rfl (fun ls hl => ?_)
  refine lv_aload_n hx hb dX7_readSign_19 rfl (lv_at hl 2 rfl) ?_
  refine lv_iload_n hx hb dX7_readSign_20 rfl (lv_at hl 0 rfl) ?_
  refine lv_if_ge (tgt := 28) hx hb dX7_readSign_21 (by decide) (fun c => ?_) (fun c => ?_)
  · replace hF := iT c hF
    refine lv_bipush (v := (40 : Int32)) hx hb dX7_readSign_28 (by decide) ?_
    refine lv_iload_n hx hb dX7_readSign_30 rfl (lv_at hl 0 rfl) ?_
    refine lv_iadd hx hb dX7_readSign_31 ?_
    exact (k_X7_readSign_32 l D hT aT yT aT_0 yT_0 n) C X (lv_sub hl [2, 3, 1] rfl) hF
  · replace hF := iF c hF
    refine lv_iconst (v := (1 : Int32)) hx hb dX7_readSign_24 (by decide) ?_
    refine lv_goto (tgt := 32) hx hb dX7_readSign_25 (by decide) ?_
    exact (k_X7_readSign_32 l D hT aT yT aT_0 yT_0 n) C X (lv_sub hl [2, 3, 1] rfl) hF

/-! ### X7_readDigits -/
theorem dX7_readDigits_0 : decode cX7_readDigits 0 = .ok (.iload_n 1, 1) := by decide +kernel
theorem dX7_readDigits_1 : decode cX7_readDigits 1 = .ok (.istore_n 2, 1) := by decide +kernel
theorem dX7_readDigits_2 : decode cX7_readDigits 2 = .ok (.iload_n 2, 1) := by decide +kernel
theorem dX7_readDigits_3 : decode cX7_readDigits 3 = .ok (.aload_n 0, 1) := by decide +kernel
theorem dX7_readDigits_4 : decode cX7_readDigits 4 = .ok (.getfield 9, 3) := by decide +kernel
theorem dX7_readDigits_7 : decode cX7_readDigits 7 = .ok (.if_icmp .ge 80, 3) := by decide +kernel
theorem dX7_readDigits_10 : decode cX7_readDigits 10 = .ok (.aload_n 0, 1) := by decide +kernel
theorem dX7_readDigits_11 : decode cX7_readDigits 11 = .ok (.iload_n 2, 1) := by decide +kernel
theorem dX7_readDigits_12 : decode cX7_readDigits 12 = .ok (.invokevirtual 62, 3) := by decide +kernel
theorem dX7_readDigits_15 : decode cX7_readDigits 15 = .ok (.invokestatic 76, 3) := by decide +kernel
theorem dX7_readDigits_18 : decode cX7_readDigits 18 = .ok (.ifCond .eq 69, 3) := by decide +kernel
theorem dX7_readDigits_21 : decode cX7_readDigits 21 = .ok (.aload_n 0, 1) := by decide +kernel
theorem dX7_readDigits_22 : decode cX7_readDigits 22 = .ok (.iload_n 2, 1) := by decide +kernel
theorem dX7_readDigits_23 : decode cX7_readDigits 23 = .ok (.invokevirtual 62, 3) := by decide +kernel
theorem dX7_readDigits_26 : decode cX7_readDigits 26 = .ok (.bipush 48, 2) := by decide +kernel
theorem dX7_readDigits_28 : decode cX7_readDigits 28 = .ok (.isub, 1) := by decide +kernel
theorem dX7_readDigits_29 : decode cX7_readDigits 29 = .ok (.istore_n 3, 1) := by decide +kernel
theorem dX7_readDigits_30 : decode cX7_readDigits 30 = .ok (.aload_n 0, 1) := by decide +kernel
theorem dX7_readDigits_31 : decode cX7_readDigits 31 = .ok (.getfield 30, 3) := by decide +kernel
theorem dX7_readDigits_34 : decode cX7_readDigits 34 = .ok (.ldc2_w 116, 3) := by decide +kernel
theorem dX7_readDigits_37 : decode cX7_readDigits 37 = .ok (.iload_n 3, 1) := by decide +kernel
theorem dX7_readDigits_38 : decode cX7_readDigits 38 = .ok (.i2l, 1) := by decide +kernel
theorem dX7_readDigits_39 : decode cX7_readDigits 39 = .ok (.lsub, 1) := by decide +kernel
theorem dX7_readDigits_40 : decode cX7_readDigits 40 = .ok (.ldc2_w 118, 3) := by decide +kernel
theorem dX7_readDigits_43 : decode cX7_readDigits 43 = .ok (.ldiv, 1) := by decide +kernel
theorem dX7_readDigits_44 : decode cX7_readDigits 44 = .ok (.lcmp, 1) := by decide +kernel
theorem dX7_readDigits_45 : decode cX7_readDigits 45 = .ok (.ifCond .le 11, 3) := by decide +kernel
theorem dX7_readDigits_48 : decode cX7_readDigits 48 = .ok (.aload_n 0, 1) := by decide +kernel
theorem dX7_readDigits_49 : decode cX7_readDigits 49 = .ok (.iconst 1, 1) := by decide +kernel
theorem dX7_readDigits_50 : decode cX7_readDigits 50 = .ok (.putfield 41, 3) := by decide +kernel
theorem dX7_readDigits_53 : decode cX7_readDigits 53 = .ok (.goto 18, 3) := by decide +kernel
theorem dX7_readDigits_56 : decode cX7_readDigits 56 = .ok (.aload_n 0, 1) := by decide +kernel
theorem dX7_readDigits_57 : decode cX7_readDigits 57 = .ok (.aload_n 0, 1) := by decide +kernel
theorem dX7_readDigits_58 : decode cX7_readDigits 58 = .ok (.getfield 30, 3) := by decide +kernel
theorem dX7_readDigits_61 : decode cX7_readDigits 61 = .ok (.ldc2_w 118, 3) := by decide +kernel
theorem dX7_readDigits_64 : decode cX7_readDigits 64 = .ok (.lmul, 1) := by decide +kernel
theorem dX7_readDigits_65 : decode cX7_readDigits 65 = .ok (.iload_n 3, 1) := by decide +kernel
theorem dX7_readDigits_66 : decode cX7_readDigits 66 = .ok (.i2l, 1) := by decide +kernel
theorem dX7_readDigits_67 : decode cX7_readDigits 67 = .ok (.ladd, 1) := by decide +kernel
theorem dX7_readDigits_68 : decode cX7_readDigits 68 = .ok (.putfield 30, 3) := by decide +kernel
theorem dX7_readDigits_71 : decode cX7_readDigits 71 = .ok (.aload_n 0, 1) := by decide +kernel
theorem dX7_readDigits_72 : decode cX7_readDigits 72 = .ok (.dup, 1) := by decide +kernel
theorem dX7_readDigits_73 : decode cX7_readDigits 73 = .ok (.getfield 38, 3) := by decide +kernel
theorem dX7_readDigits_76 : decode cX7_readDigits 76 = .ok (.iconst 1, 1) := by decide +kernel
theorem dX7_readDigits_77 : decode cX7_readDigits 77 = .ok (.iadd, 1) := by decide +kernel
theorem dX7_readDigits_78 : decode cX7_readDigits 78 = .ok (.putfield 38, 3) := by decide +kernel
theorem dX7_readDigits_81 : decode cX7_readDigits 81 = .ok (.iinc 2 1, 3) := by decide +kernel
theorem dX7_readDigits_84 : decode cX7_readDigits 84 = .ok (.goto (-82), 3) := by decide +kernel
theorem dX7_readDigits_87 : decode cX7_readDigits 87 = .ok (.iload_n 2, 1) := by decide +kernel
theorem dX7_readDigits_88 : decode cX7_readDigits 88 = .ok (.ireturn, 1) := by decide +kernel
abbrev R_X7_readDigits : Room := ({ frames := 1, cells := 0, slots := 0, locals := 21 } : Room)
def b_X7_readDigits_71 (n : Nat) (rec : (Gs → Gs → Int32 → Option (Int32 × Gs))) (gT : Gs) (gT_0 : Gs) (v2 : Int32) : Option (Int32 × Gs) :=
  rec (sI gT 10 ((gI gT 10) + (1 : Int32))) gT_0 (v2 + (1 : Int32))
def h_X7_readDigits_2 (n : Nat) (rec : (Gs → Gs → Int32 → Option (Int32 × Gs))) (gT : Gs) (gT_0 : Gs) (v2 : Int32) : Option (Int32 × Gs) :=
  if (gI gT 2) ≤ v2 then (some (v2, gT)) else (bnd (f_X7_byteAt gT gT_0 v2) (fun q_1 => bnd (f_X7_isDigit q_1) (fun q_3 => if q_3 = 0 then (some (v2, gT)) else (bnd (f_X7_byteAt gT gT_0 v2) (fun q_5 => if (gL gT 8) ≤ (((9223372036854775807 : Int64) - ((q_5 - (48 : Int32)).toInt64)) / (10 : Int64)) then (b_X7_readDigits_71 n rec (sL gT 8 (((gL gT 8) * (10 : Int64)) + ((q_5 - (48 : Int32)).toInt64))) gT_0 v2) else (b_X7_readDigits_71 n rec (sI gT 11 (1 : Int32)) gT_0 v2))))))
def L_X7_readDigits (n : Nat) : Nat → (Gs → Gs → Int32 → Option (Int32 × Gs))
  | 0 => ((fun _ _ _ => none))
  | k + 1 => (h_X7_readDigits_2 n (L_X7_readDigits n k))
def f_X7_readDigits (n : Nat) (gT : Gs) (gT_0 : Gs) (x0 : Int32) : Option (Int32 × Gs) :=
  (L_X7_readDigits n n) gT gT_0 x0
def S_X7_readDigits_71 (l : Launch) (D : Dx) (hT : Nat) (aT : Nat → Nat) (yT : Nat → ClassId) (aT_0 : Nat → Nat) (yT_0 : Nat → ClassId) (fn : Gs → Gs → Int32 → Option (Int32 × Gs)) : Prop :=
  ∀ {p : Program} {e : Env} {s : State} {m : MethodId} {args : Array Value} {below : List Frame} {meth : Method} {c : Code} {H : Heap} {locs : List Loc} {A : Nat → Prop} {ls : Array Slot} {gT : Gs} {gT_0 : Gs} {v2 : Int32} {q : Int32 × Gs}, Cx p s m args meth c cX7_readDigits (some .int) 4 RX7 lw_all → Hx D (tX7 yT ++ (tTP yT_0)) A s H locs (wX7 hT aT yT gT ++ (wTP (aT 0) aT_0 yT_0 gT_0)) → lv_has ls 4 [(0, .ref hT), (2, .int v2)] → fn gT gT_0 v2 = some q → W p l e R_X7_readDigits s m args below meth c H locs 0 0 (MQ below (QI D A (wX7 hT aT yT q.2 ++ (wTP (aT 0) aT_0 yT_0 gT_0)) q.1) args s 0 0 A) (F0 m 71 ls [])
def S_X7_readDigits_2 (l : Launch) (D : Dx) (hT : Nat) (aT : Nat → Nat) (yT : Nat → ClassId) (aT_0 : Nat → Nat) (yT_0 : Nat → ClassId) (fn : Gs → Gs → Int32 → Option (Int32 × Gs)) : Prop :=
  ∀ {p : Program} {e : Env} {s : State} {m : MethodId} {args : Array Value} {below : List Frame} {meth : Method} {c : Code} {H : Heap} {locs : List Loc} {A : Nat → Prop} {ls : Array Slot} {gT : Gs} {gT_0 : Gs} {v2 : Int32} {q : Int32 × Gs}, Cx p s m args meth c cX7_readDigits (some .int) 4 RX7 lw_all → Hx D (tX7 yT ++ (tTP yT_0)) A s H locs (wX7 hT aT yT gT ++ (wTP (aT 0) aT_0 yT_0 gT_0)) → lv_has ls 4 [(0, .ref hT), (2, .int v2)] → fn gT gT_0 v2 = some q → W p l e R_X7_readDigits s m args below meth c H locs 0 0 (MQ below (QI D A (wX7 hT aT yT q.2 ++ (wTP (aT 0) aT_0 yT_0 gT_0)) q.1) args s 0 0 A) (F0 m 2 ls [])
def SH_X7_readDigits (l : Launch) (D : Dx) (hT : Nat) (aT : Nat → Nat) (yT : Nat → ClassId) (aT_0 : Nat → Nat) (yT_0 : Nat → ClassId) (rec : (Gs → Gs → Int32 → Option (Int32 × Gs))) : Prop := S_X7_readDigits_2 l D hT aT yT aT_0 yT_0 rec
set_option maxHeartbeats 4000000 in
set_option maxRecDepth 100000 in
theorem k_X7_readDigits_71 (l : Launch) (D : Dx) (hT : Nat) (aT : Nat → Nat) (yT : Nat → ClassId) (aT_0 : Nat → Nat) (yT_0 : Nat → ClassId) (n : Nat) (rec : (Gs → Gs → Int32 → Option (Int32 × Gs))) (IH : SH_X7_readDigits l D hT aT yT aT_0 yT_0 rec) : S_X7_readDigits_71 l D hT aT yT aT_0 yT_0 (b_X7_readDigits_71 n rec) := by
  intro p e s m args below meth c H locs A ls gT gT_0 v2 q C X hl hF
  obtain ⟨hx, hb, hr, hml, hown, hts, hlk⟩ := id C
  unfold b_X7_readDigits_71 at hF
  refine lv_aload_n hx hb dX7_readDigits_71 rfl (lv_at hl 0 rfl) ?_
  refine lv_dup hx hb dX7_readDigits_72 rfl ?_
  refine va_get (D := D.1) (ci := 7) (v := .int (gI gT 10)) (C := RX7) (T := TX7) (N := 12) hx hb hts wi_X7 hown X.1 X.2.1 0 rfl rfl 10 (by decide) (hts _ q3_11) (fun _ h9 => h9) (fl_get (by decide)) dX7_readDigits_73 ?_
  refine lv_iconst (v := (1 : Int32)) hx hb dX7_readDigits_76 (by decide) ?_
  refine lv_iadd hx hb dX7_readDigits_77 ?_
  refine va_put (D := D.1) (ci := 7) (v := .int ((gI gT 10) + (1 : Int32))) (ty := .int) (C := RX7) (T := TX7) (N := 12) hx hb hts wi_X7 tyX7 tyX7_ok nmX7 hown X.1 X.2.1 X.2.2.1 X.2.2.2.1 0 rfl rfl 10 (by decide) (hts _ q3_11) (fun _ h9 => h9) rfl (by decide +kernel) rfl rfl (by rw [List.length_map, List.length_range]; decide) dX7_readDigits_78 (fun H locs hP hD hS => ?_)
  have X : Hx D (tX7 yT ++ (tTP yT_0)) A s H locs (wX7 hT aT yT (sI gT 10 ((gI gT 10) + (1 : Int32))) ++ (wTP (aT 0) aT_0 yT_0 gT_0)) := Hx_set X (set_l (by rw [wG_len (m := 1) rfl]; decide) (wG_sI (k := 10) rfl)) hP hD hS
  refine lv_iinc (v := v2 + (1 : Int32)) (lv' := [(2, .int (v2 + (1 : Int32))), (0, .ref hT)]) hx hb dX7_readDigits_81 hl (k := 1) rfl rfl (by decide) rfl (fun ls hl => ?_)
  refine lv_goto (tgt := 2) hx hb dX7_readDigits_84 (by decide) ?_
  exact IH C X (lv_sub hl [1, 0] rfl) hF
set_option maxHeartbeats 4000000 in
set_option maxRecDepth 100000 in
theorem k_X7_readDigits_2 (l : Launch) (D : Dx) (hT : Nat) (aT : Nat → Nat) (yT : Nat → ClassId) (aT_0 : Nat → Nat) (yT_0 : Nat → ClassId) (n : Nat) (rec : (Gs → Gs → Int32 → Option (Int32 × Gs))) (IH : SH_X7_readDigits l D hT aT yT aT_0 yT_0 rec) : S_X7_readDigits_2 l D hT aT yT aT_0 yT_0 (h_X7_readDigits_2 n rec) := by
  intro p e s m args below meth c H locs A ls gT gT_0 v2 q C X hl hF
  obtain ⟨hx, hb, hr, hml, hown, hts, hlk⟩ := id C
  unfold h_X7_readDigits_2 at hF
  refine lv_iload_n hx hb dX7_readDigits_2 rfl (lv_at hl 1 rfl) ?_
  refine lv_aload_n hx hb dX7_readDigits_3 rfl (lv_at hl 0 rfl) ?_
  refine va_get (D := D.1) (ci := 7) (v := .int (gI gT 2)) (C := RX7) (T := TX7) (N := 12) hx hb hts wi_X7 hown X.1 X.2.1 0 rfl rfl 2 (by decide) (hts _ q2_237) (fun _ h9 => h9) (fl_get (by decide)) dX7_readDigits_4 ?_
  refine lv_icmp_ge (tgt := 87) hx hb dX7_readDigits_7 (by decide) (fun c => ?_) (fun c => ?_)
  · replace hF := iT c hF
    refine lv_iload_n hx hb dX7_readDigits_87 rfl (lv_at hl 1 rfl) ?_
    have hq := Option.some.inj hF
    subst hq
    exact rt_i C X dX7_readDigits_88
  · replace hF := iF c hF
    refine lv_aload_n hx hb dX7_readDigits_10 rfl (lv_at hl 0 rfl) ?_
    refine lv_iload_n hx hb dX7_readDigits_11 rfl (lv_at hl 1 rfl) ?_
    obtain ⟨q_1, hc_2, hF⟩ := bnd_some hF
    refine cV_i (As := [.int v2]) (rest := []) C X (c_X7_byteAt l D hT aT yT aT_0 yT_0 gT gT_0 v2 q_1 hc_2 _) (cwV 1 hts (good_V q3_134 q3_136 q0_3 q1_12 q3_137) rfl rfl rfl (by decide +kernel) ⟨Nat.le_of_ble_eq_true rfl, Nat.le_of_ble_eq_true rfl⟩) (va_recv X.1 X.2.1 (ci := 7) (q0 := 0) rfl rfl) X.1 X.2.1 X.2.2.1 (free_all X) hl.1 rfl rfl (Nat.le_of_ble_eq_true rfl) dX7_readDigits_12 ⟨Nat.le_of_ble_eq_true rfl, Nat.le_of_ble_eq_true rfl⟩ (fun t H1 locs1 ht hB hk hS => ?_)
    have X : Hx D (tX7 yT ++ (tTP yT_0)) A s H1 locs1 (wX7 hT aT yT gT ++ (wTP (aT 0) aT_0 yT_0 gT_0)) := Hx_after_all X ht hB hS
    clear hk hS ht hB
    generalize H1 = H at X ⊢
    generalize locs1 = locs at X ⊢
    obtain ⟨q_3, hc_4, hF⟩ := bnd_some hF
    refine cS_i (As := [.int q_1]) (rest := []) C X (c_X7_isDigit l D  q_1 q_3 hc_4 _) (va_cwS 1 hts (good_S q3_148 q3_149 q1_12 q3_150) rfl rfl rfl (by decide +kernel) ⟨Nat.le_of_ble_eq_true rfl, Nat.le_of_ble_eq_true rfl⟩) (eK X) eP (eD (A := A)) (eF X) hl.1 rfl rfl (Nat.le_of_ble_eq_true rfl) dX7_readDigits_15 ⟨Nat.le_of_ble_eq_true rfl, Nat.le_of_ble_eq_true rfl⟩ (fun t H1 locs1 ht hB hk hS => ?_)
    have X := Hx_after_none X hk hS
    clear hk hS ht hB
    generalize H1 = H at X ⊢
    generalize locs1 = locs at X ⊢
    refine lv_if_eq (tgt := 87) hx hb dX7_readDigits_18 (by decide) (fun c => ?_) (fun c => ?_)
    · replace hF := iT c hF
      refine lv_iload_n hx hb dX7_readDigits_87 rfl (lv_at hl 1 rfl) ?_
      have hq := Option.some.inj hF
      subst hq
      exact rt_i C X dX7_readDigits_88
    · replace hF := iF c hF
      refine lv_aload_n hx hb dX7_readDigits_21 rfl (lv_at hl 0 rfl) ?_
      refine lv_iload_n hx hb dX7_readDigits_22 rfl (lv_at hl 1 rfl) ?_
      obtain ⟨q_5, hc_6, hF⟩ := bnd_some hF
      refine cV_i (As := [.int v2]) (rest := []) C X (c_X7_byteAt l D hT aT yT aT_0 yT_0 gT gT_0 v2 q_5 hc_6 _) (cwV 1 hts (good_V q3_134 q3_136 q0_3 q1_12 q3_137) rfl rfl rfl (by decide +kernel) ⟨Nat.le_of_ble_eq_true rfl, Nat.le_of_ble_eq_true rfl⟩) (va_recv X.1 X.2.1 (ci := 7) (q0 := 0) rfl rfl) X.1 X.2.1 X.2.2.1 (free_all X) hl.1 rfl rfl (Nat.le_of_ble_eq_true rfl) dX7_readDigits_23 ⟨Nat.le_of_ble_eq_true rfl, Nat.le_of_ble_eq_true rfl⟩ (fun t H1 locs1 ht hB hk hS => ?_)
      have X : Hx D (tX7 yT ++ (tTP yT_0)) A s H1 locs1 (wX7 hT aT yT gT ++ (wTP (aT 0) aT_0 yT_0 gT_0)) := Hx_after_all X ht hB hS
      clear hk hS ht hB
      generalize H1 = H at X ⊢
      generalize locs1 = locs at X ⊢
      refine lv_bipush (v := (48 : Int32)) hx hb dX7_readDigits_26 (by decide) ?_
      refine lv_isub hx hb dX7_readDigits_28 ?_
      refine lv_istore_n (lv' := [(3, .int (q_5 - (48 : Int32))), (0, .ref hT), (2, .int v2)]) hx hb dX7_readDigits_29 rfl hl (by decide) rfl (fun ls hl => ?_)
      refine lv_aload_n hx hb dX7_readDigits_30 rfl (lv_at hl 1 rfl) ?_
      refine va_get (D := D.1) (ci := 7) (v := .long (gL gT 8)) (C := RX7) (T := TX7) (N := 12) hx hb hts wi_X7 hown X.1 X.2.1 0 rfl rfl 8 (by decide) (hts _ q3_7) (fun _ h9 => h9) (fl_get (by decide)) dX7_readDigits_31 ?_
      refine lv_ldc2 hx hb hown (hts _ q3_204) dX7_readDigits_34 ?_
      refine lv_iload_n hx hb dX7_readDigits_37 rfl (lv_at hl 0 rfl) ?_
      refine lv_i2l hx hb dX7_readDigits_38 rfl ?_
      refine lv_lsub hx hb dX7_readDigits_39 ?_
      refine lv_ldc2 hx hb hown (hts _ q3_205) dX7_readDigits_40 ?_
      refine lv_ldiv hx hb dX7_readDigits_43 (by decide) ?_
      refine W.lcmp hx hb dX7_readDigits_44 ?_
      refine lv_if_le (tgt := 56) hx hb dX7_readDigits_45 (by decide) (fun c => ?_) (fun c => ?_)
      · have c := (lg_cmp_le _ _).mp c
        replace hF := iT c hF
        refine lv_aload_n hx hb dX7_readDigits_56 rfl (lv_at hl 1 rfl) ?_
        refine lv_aload_n hx hb dX7_readDigits_57 rfl (lv_at hl 1 rfl) ?_
        refine va_get (D := D.1) (ci := 7) (v := .long (gL gT 8)) (C := RX7) (T := TX7) (N := 12) hx hb hts wi_X7 hown X.1 X.2.1 0 rfl rfl 8 (by decide) (hts _ q3_7) (fun _ h9 => h9) (fl_get (by decide)) dX7_readDigits_58 ?_
        refine lv_ldc2 hx hb hown (hts _ q3_205) dX7_readDigits_61 ?_
        refine lv_lmul hx hb dX7_readDigits_64 ?_
        refine lv_iload_n hx hb dX7_readDigits_65 rfl (lv_at hl 0 rfl) ?_
        refine lv_i2l hx hb dX7_readDigits_66 rfl ?_
        refine lv_ladd hx hb dX7_readDigits_67 ?_
        refine va_put (D := D.1) (ci := 7) (v := .long (((gL gT 8) * (10 : Int64)) + ((q_5 - (48 : Int32)).toInt64))) (ty := .long) (C := RX7) (T := TX7) (N := 12) hx hb hts wi_X7 tyX7 tyX7_ok nmX7 hown X.1 X.2.1 X.2.2.1 X.2.2.2.1 0 rfl rfl 8 (by decide) (hts _ q3_7) (fun _ h9 => h9) rfl (by decide +kernel) rfl rfl (by rw [List.length_map, List.length_range]; decide) dX7_readDigits_68 (fun H locs hP hD hS => ?_)
        have X : Hx D (tX7 yT ++ (tTP yT_0)) A s H locs (wX7 hT aT yT (sL gT 8 (((gL gT 8) * (10 : Int64)) + ((q_5 - (48 : Int32)).toInt64))) ++ (wTP (aT 0) aT_0 yT_0 gT_0)) := Hx_set X (set_l (by rw [wG_len (m := 1) rfl]; decide) (wG_sL (k := 8) rfl)) hP hD hS
        exact (k_X7_readDigits_71 l D hT aT yT aT_0 yT_0 n rec IH) C X (lv_sub hl [1, 2] rfl) hF
      · have c := fun h => c ((lg_cmp_le _ _).mpr h)
        replace hF := iF c hF
        refine lv_aload_n hx hb dX7_readDigits_48 rfl (lv_at hl 1 rfl) ?_
        refine lv_iconst (v := (1 : Int32)) hx hb dX7_readDigits_49 (by decide) ?_
        refine va_put (D := D.1) (ci := 7) (v := .int (1 : Int32)) (ty := .boolean) (C := RX7) (T := TX7) (N := 12) hx hb hts wi_X7 tyX7 tyX7_ok nmX7 hown X.1 X.2.1 X.2.2.1 X.2.2.2.1 0 rfl rfl 11 (by decide) (hts _ q3_12) (fun _ h9 => h9) rfl (by decide +kernel) rfl rfl (by rw [List.length_map, List.length_range]; decide) dX7_readDigits_50 (fun H locs hP hD hS => ?_)
        have X : Hx D (tX7 yT ++ (tTP yT_0)) A s H locs (wX7 hT aT yT (sI gT 11 (1 : Int32)) ++ (wTP (aT 0) aT_0 yT_0 gT_0)) := Hx_set X (set_l (by rw [wG_len (m := 1) rfl]; decide) (wG_sI (k := 11) rfl)) hP hD hS
        refine lv_goto (tgt := 71) hx hb dX7_readDigits_53 (by decide) ?_
        exact (k_X7_readDigits_71 l D hT aT yT aT_0 yT_0 n rec IH) C X (lv_sub hl [1, 2] rfl) hF
theorem kL_X7_readDigits (l : Launch) (D : Dx) (hT : Nat) (aT : Nat → Nat) (yT : Nat → ClassId) (aT_0 : Nat → Nat) (yT_0 : Nat → ClassId) (n : Nat) : ∀ k, SH_X7_readDigits l D hT aT yT aT_0 yT_0 (L_X7_readDigits n k)
  | 0 => fun _ _ _ h => by cases h
  | k + 1 => k_X7_readDigits_2 l D hT aT yT aT_0 yT_0 n _ (kL_X7_readDigits l D hT aT yT aT_0 yT_0 n k)
set_option maxHeartbeats 4000000 in
set_option maxRecDepth 100000 in
theorem c_X7_readDigits (l : Launch) (D : Dx) (hT : Nat) (aT : Nat → Nat) (yT : Nat → ClassId) (aT_0 : Nat → Nat) (yT_0 : Nat → ClassId) (n : Nat) (gT : Gs) (gT_0 : Gs) (x0 : Int32) (q : Int32 × Gs) (hF : f_X7_readDigits n gT gT_0 x0 = some q) (sz : Nat) : Met l yX7_readDigits (ws_ yX7_readDigits cX7_readDigits 4 (some .int)) R_X7_readDigits (PC D (tX7 yT ++ (tTP yT_0)) [.ref hT, .int x0] (wX7 hT aT yT gT ++ (wTP (aT 0) aT_0 yT_0 gT_0)) sz) (QI D (va_A (wX7 hT aT yT gT ++ (wTP (aT 0) aT_0 yT_0 gT_0)) sz) (wX7 hT aT yT q.2 ++ (wTP (aT 0) aT_0 yT_0 gT_0)) q.1) 0 0 (va_A (wX7 hT aT yT gT ++ (wTP (aT 0) aT_0 yT_0 gT_0)) sz) := by
  refine Met.ofW (cc := cX7_readDigits) (maxL := 4) (ret := (some .int)) (by decide) rfl ?_
  intro p e s m args below meth c s₁ B hml hv
  obtain ⟨rfl, hsz, hP, hK, hD, hN⟩ := hv
  subst hsz
  have C : Cx p s m _ meth c cX7_readDigits (some .int) 4 RX7 lw_all := Cx_of B hml
  have X := Hx_start hP hK hD hN
  obtain ⟨hx, hb, hr, -, hown, hts, hlk⟩ := id C
  generalize va_A (wX7 hT aT yT gT ++ (wTP (aT 0) aT_0 yT_0 gT_0)) s.heap.size = A at X ⊢
  have hl := lv_entry ([.ref hT, .int x0]) (n := 4) (Nat.le_of_ble_eq_true rfl)
  rw [lg_entry_eq]
  generalize (lg_sl ([.ref hT, .int x0]) ++ List.replicate (4 - (lg_sl ([.ref hT, .int x0])).length) Slot.unset).toArray = ls at hl ⊢
  have hl : lv_has ls 4 [(0, .ref hT), (1, .int x0)] := hl
  unfold f_X7_readDigits at hF
  refine lv_iload_n hx hb dX7_readDigits_0 rfl (lv_at hl 1 rfl) ?_
  refine lv_istore_n (lv' := [(2, .int x0), (0, .ref hT), (1, .int x0)]) hx hb dX7_readDigits_1 rfl hl (by decide) rfl (fun ls hl => ?_)
  exact (kL_X7_readDigits l D hT aT yT aT_0 yT_0 n n) C X (lv_sub hl [1, 0] rfl) hF

/-! ### X7_settleWhole -/
theorem dX7_settleWhole_0 : decode cX7_settleWhole 0 = .ok (.aload_n 0, 1) := by decide +kernel
theorem dX7_settleWhole_1 : decode cX7_settleWhole 1 = .ok (.iload_n 1, 1) := by decide +kernel
theorem dX7_settleWhole_2 : decode cX7_settleWhole 2 = .ok (.bipush 108, 2) := by decide +kernel
theorem dX7_settleWhole_4 : decode cX7_settleWhole 4 = .ok (.if_icmp .ne 7, 3) := by decide +kernel
theorem dX7_settleWhole_7 : decode cX7_settleWhole 7 = .ok (.iconst 5, 1) := by decide +kernel
theorem dX7_settleWhole_8 : decode cX7_settleWhole 8 = .ok (.goto 4, 3) := by decide +kernel
theorem dX7_settleWhole_11 : decode cX7_settleWhole 11 = .ok (.iconst 4, 1) := by decide +kernel
theorem dX7_settleWhole_12 : decode cX7_settleWhole 12 = .ok (.putfield 27, 3) := by decide +kernel
theorem dX7_settleWhole_15 : decode cX7_settleWhole 15 = .ok (.aload_n 0, 1) := by decide +kernel
theorem dX7_settleWhole_16 : decode cX7_settleWhole 16 = .ok (.dconst 0, 1) := by decide +kernel
theorem dX7_settleWhole_17 : decode cX7_settleWhole 17 = .ok (.putfield 34, 3) := by decide +kernel
theorem dX7_settleWhole_20 : decode cX7_settleWhole 20 = .ok (.aload_n 0, 1) := by decide +kernel
theorem dX7_settleWhole_21 : decode cX7_settleWhole 21 = .ok (.getfield 41, 3) := by decide +kernel
theorem dX7_settleWhole_24 : decode cX7_settleWhole 24 = .ok (.ifCond .ne 27, 3) := by decide +kernel
theorem dX7_settleWhole_27 : decode cX7_settleWhole 27 = .ok (.aload_n 0, 1) := by decide +kernel
theorem dX7_settleWhole_28 : decode cX7_settleWhole 28 = .ok (.getfield 27, 3) := by decide +kernel
theorem dX7_settleWhole_31 : decode cX7_settleWhole 31 = .ok (.iconst 5, 1) := by decide +kernel
theorem dX7_settleWhole_32 : decode cX7_settleWhole 32 = .ok (.if_icmp .eq 14, 3) := by decide +kernel
theorem dX7_settleWhole_35 : decode cX7_settleWhole 35 = .ok (.aload_n 0, 1) := by decide +kernel
theorem dX7_settleWhole_36 : decode cX7_settleWhole 36 = .ok (.getfield 30, 3) := by decide +kernel
theorem dX7_settleWhole_39 : decode cX7_settleWhole 39 = .ok (.ldc2_w 120, 3) := by decide +kernel
theorem dX7_settleWhole_42 : decode cX7_settleWhole 42 = .ok (.lcmp, 1) := by decide +kernel
theorem dX7_settleWhole_43 : decode cX7_settleWhole 43 = .ok (.ifCond .gt 8, 3) := by decide +kernel
theorem dX7_settleWhole_46 : decode cX7_settleWhole 46 = .ok (.aload_n 0, 1) := by decide +kernel
theorem dX7_settleWhole_47 : decode cX7_settleWhole 47 = .ok (.iconst 3, 1) := by decide +kernel
theorem dX7_settleWhole_48 : decode cX7_settleWhole 48 = .ok (.putfield 18, 3) := by decide +kernel
theorem dX7_settleWhole_51 : decode cX7_settleWhole 51 = .ok (.return_, 1) := by decide +kernel
abbrev R_X7_settleWhole : Room := ({ frames := 0, cells := 0, slots := 0, locals := 0 } : Room)
def b_X7_settleWhole_46 (gT : Gs) : Option (Gs) :=
  some (sI gT 4 (3 : Int32))
def b_X7_settleWhole_12 (gT : Gs) (s0 : Int32) : Option (Gs) :=
  if (gI gT 11) = 0 then (if s0 = (5 : Int32) then (b_X7_settleWhole_46 (sD (sI gT 7 s0) 9 FP.dconst0)) else (if (2147483647 : Int64) < (gL gT 8) then (some (sD (sI gT 7 s0) 9 FP.dconst0)) else (b_X7_settleWhole_46 (sD (sI gT 7 s0) 9 FP.dconst0)))) else (some (sD (sI gT 7 s0) 9 FP.dconst0))
def f_X7_settleWhole (gT : Gs) (x0 : Int32) : Option (Gs) :=
  if x0 = (108 : Int32) then (b_X7_settleWhole_12 gT (5 : Int32)) else (b_X7_settleWhole_12 gT (4 : Int32))
def S_X7_settleWhole_46 (l : Launch) (D : Dx) (hT : Nat) (aT : Nat → Nat) (yT : Nat → ClassId) (fn : Gs → Option (Gs)) : Prop :=
  ∀ {p : Program} {e : Env} {s : State} {m : MethodId} {args : Array Value} {below : List Frame} {meth : Method} {c : Code} {H : Heap} {locs : List Loc} {A : Nat → Prop} {ls : Array Slot} {gT : Gs} {q : Gs}, Cx p s m args meth c cX7_settleWhole none 2 RX7 lw_all → Hx D (tX7 yT) A s H locs (wX7 hT aT yT gT) → lv_has ls 2 [(0, .ref hT)] → fn gT = some q → W p l e R_X7_settleWhole s m args below meth c H locs 0 0 (MQ below (QV D A (wX7 hT aT yT q)) args s 0 0 A) (F0 m 46 ls [])
def S_X7_settleWhole_12 (l : Launch) (D : Dx) (hT : Nat) (aT : Nat → Nat) (yT : Nat → ClassId) (fn : Gs → Int32 → Option (Gs)) : Prop :=
  ∀ {p : Program} {e : Env} {s : State} {m : MethodId} {args : Array Value} {below : List Frame} {meth : Method} {c : Code} {H : Heap} {locs : List Loc} {A : Nat → Prop} {ls : Array Slot} {gT : Gs} {s0 : Int32} {q : Gs}, Cx p s m args meth c cX7_settleWhole none 2 RX7 lw_all → Hx D (tX7 yT) A s H locs (wX7 hT aT yT gT) → lv_has ls 2 [(0, .ref hT)] → fn gT s0 = some q → W p l e R_X7_settleWhole s m args below meth c H locs 0 0 (MQ below (QV D A (wX7 hT aT yT q)) args s 0 0 A) (F0 m 12 ls [.int s0, .ref hT])
set_option maxHeartbeats 4000000 in
set_option maxRecDepth 100000 in
theorem k_X7_settleWhole_46 (l : Launch) (D : Dx) (hT : Nat) (aT : Nat → Nat) (yT : Nat → ClassId) : S_X7_settleWhole_46 l D hT aT yT (b_X7_settleWhole_46) := by
  intro p e s m args below meth c H locs A ls gT q C X hl hF
  obtain ⟨hx, hb, hr, hml, hown, hts, hlk⟩ := id C
  unfold b_X7_settleWhole_46 at hF
  refine lv_aload_n hx hb dX7_settleWhole_46 rfl (lv_at hl 0 rfl) ?_
  refine lv_iconst (v := (3 : Int32)) hx hb dX7_settleWhole_47 (by decide) ?_
  refine va_put (D := D.1) (ci := 7) (v := .int (3 : Int32)) (ty := .int) (C := RX7) (T := TX7) (N := 12) hx hb hts wi_X7 tyX7 tyX7_ok nmX7 hown X.1 X.2.1 X.2.2.1 X.2.2.2.1 0 rfl rfl 4 (by decide) (hts _ q2_239) (fun _ h9 => h9) rfl (by decide +kernel) rfl rfl (by rw [List.length_map, List.length_range]; decide) dX7_settleWhole_48 (fun H locs hP hD hS => ?_)
  have X : Hx D (tX7 yT) A s H locs (wX7 hT aT yT (sI gT 4 (3 : Int32))) := Hx_set X (wG_sI (k := 4) rfl) hP hD hS
  have hq := Option.some.inj hF
  subst hq
  exact rt_v C X dX7_settleWhole_51
set_option maxHeartbeats 4000000 in
set_option maxRecDepth 100000 in
theorem k_X7_settleWhole_12 (l : Launch) (D : Dx) (hT : Nat) (aT : Nat → Nat) (yT : Nat → ClassId) : S_X7_settleWhole_12 l D hT aT yT (b_X7_settleWhole_12) := by
  intro p e s m args below meth c H locs A ls gT s0 q C X hl hF
  obtain ⟨hx, hb, hr, hml, hown, hts, hlk⟩ := id C
  unfold b_X7_settleWhole_12 at hF
  refine va_put (D := D.1) (ci := 7) (v := .int s0) (ty := .int) (C := RX7) (T := TX7) (N := 12) hx hb hts wi_X7 tyX7 tyX7_ok nmX7 hown X.1 X.2.1 X.2.2.1 X.2.2.2.1 0 rfl rfl 7 (by decide) (hts _ q3_5) (fun _ h9 => h9) rfl (by decide +kernel) rfl rfl (by rw [List.length_map, List.length_range]; decide) dX7_settleWhole_12 (fun H locs hP hD hS => ?_)
  have X : Hx D (tX7 yT) A s H locs (wX7 hT aT yT (sI gT 7 s0)) := Hx_set X (wG_sI (k := 7) rfl) hP hD hS
  refine lv_aload_n hx hb dX7_settleWhole_15 rfl (lv_at hl 0 rfl) ?_
  refine lv_dconst0 hx hb dX7_settleWhole_16 ?_
  refine va_put (D := D.1) (ci := 7) (v := .double FP.dconst0) (ty := .double) (C := RX7) (T := TX7) (N := 12) hx hb hts wi_X7 tyX7 tyX7_ok nmX7 hown X.1 X.2.1 X.2.2.1 X.2.2.2.1 0 rfl rfl 9 (by decide) (hts _ q3_9) (fun _ h9 => h9) rfl (by decide +kernel) rfl rfl (by rw [List.length_map, List.length_range]; decide) dX7_settleWhole_17 (fun H locs hP hD hS => ?_)
  have X : Hx D (tX7 yT) A s H locs (wX7 hT aT yT (sD (sI gT 7 s0) 9 FP.dconst0)) := Hx_set X (wG_sD (k := 9) rfl) hP hD hS
  refine lv_aload_n hx hb dX7_settleWhole_20 rfl (lv_at hl 0 rfl) ?_
  refine va_get (D := D.1) (ci := 7) (v := .int (gI gT 11)) (C := RX7) (T := TX7) (N := 12) hx hb hts wi_X7 hown X.1 X.2.1 0 rfl rfl 11 (by decide) (hts _ q3_12) (fun _ h9 => h9) (fl_get (by decide)) dX7_settleWhole_21 ?_
  refine lv_if_ne (tgt := 51) hx hb dX7_settleWhole_24 (by decide) (fun c => ?_) (fun c => ?_)
  · replace hF := iF c hF
    have hq := Option.some.inj hF
    subst hq
    exact rt_v C X dX7_settleWhole_51
  · replace hF := iT c hF
    refine lv_aload_n hx hb dX7_settleWhole_27 rfl (lv_at hl 0 rfl) ?_
    refine va_get (D := D.1) (ci := 7) (v := .int s0) (C := RX7) (T := TX7) (N := 12) hx hb hts wi_X7 hown X.1 X.2.1 0 rfl rfl 7 (by decide) (hts _ q3_5) (fun _ h9 => h9) (fl_get (by decide)) dX7_settleWhole_28 ?_
    refine lv_iconst (v := (5 : Int32)) hx hb dX7_settleWhole_31 (by decide) ?_
    refine lv_icmp_eq (tgt := 46) hx hb dX7_settleWhole_32 (by decide) (fun c => ?_) (fun c => ?_)
    · replace hF := iT c hF
      exact (k_X7_settleWhole_46 l D hT aT yT) C X (lv_sub hl [0] rfl) hF
    · replace hF := iF c hF
      refine lv_aload_n hx hb dX7_settleWhole_35 rfl (lv_at hl 0 rfl) ?_
      refine va_get (D := D.1) (ci := 7) (v := .long (gL gT 8)) (C := RX7) (T := TX7) (N := 12) hx hb hts wi_X7 hown X.1 X.2.1 0 rfl rfl 8 (by decide) (hts _ q3_7) (fun _ h9 => h9) (fl_get (by decide)) dX7_settleWhole_36 ?_
      refine lv_ldc2 hx hb hown (hts _ q3_224) dX7_settleWhole_39 ?_
      refine W.lcmp hx hb dX7_settleWhole_42 ?_
      refine lv_if_gt (tgt := 51) hx hb dX7_settleWhole_43 (by decide) (fun c => ?_) (fun c => ?_)
      · have c := (lg_cmp_gt _ _).mp c
        replace hF := iT c hF
        have hq := Option.some.inj hF
        subst hq
        exact rt_v C X dX7_settleWhole_51
      · have c := fun h => c ((lg_cmp_gt _ _).mpr h)
        replace hF := iF c hF
        exact (k_X7_settleWhole_46 l D hT aT yT) C X (lv_sub hl [0] rfl) hF
set_option maxHeartbeats 4000000 in
set_option maxRecDepth 100000 in
theorem c_X7_settleWhole (l : Launch) (D : Dx) (hT : Nat) (aT : Nat → Nat) (yT : Nat → ClassId) (gT : Gs) (x0 : Int32) (q : Gs) (hF : f_X7_settleWhole gT x0 = some q) (sz : Nat) : Met l yX7_settleWhole (ws_ yX7_settleWhole cX7_settleWhole 2 none) R_X7_settleWhole (PC D (tX7 yT) [.ref hT, .int x0] (wX7 hT aT yT gT) sz) (QV D (va_A (wX7 hT aT yT gT) sz) (wX7 hT aT yT q)) 0 0 (va_A (wX7 hT aT yT gT) sz) := by
  refine Met.ofW (cc := cX7_settleWhole) (maxL := 2) (ret := none) (by decide) rfl ?_
  intro p e s m args below meth c s₁ B hml hv
  obtain ⟨rfl, hsz, hP, hK, hD, hN⟩ := hv
  subst hsz
  have C : Cx p s m _ meth c cX7_settleWhole none 2 RX7 lw_all := Cx_of B hml
  have X := Hx_start hP hK hD hN
  obtain ⟨hx, hb, hr, -, hown, hts, hlk⟩ := id C
  generalize va_A (wX7 hT aT yT gT) s.heap.size = A at X ⊢
  have hl := lv_entry ([.ref hT, .int x0]) (n := 2) (Nat.le_of_ble_eq_true rfl)
  rw [lg_entry_eq]
  generalize (lg_sl ([.ref hT, .int x0]) ++ List.replicate (2 - (lg_sl ([.ref hT, .int x0])).length) Slot.unset).toArray = ls at hl ⊢
  have hl : lv_has ls 2 [(0, .ref hT), (1, .int x0)] := hl
  unfold f_X7_settleWhole at hF
  refine lv_aload_n hx hb dX7_settleWhole_0 rfl (lv_at hl 0 rfl) ?_
  refine lv_iload_n hx hb dX7_settleWhole_1 rfl (lv_at hl 1 rfl) ?_
  refine lv_bipush (v := (108 : Int32)) hx hb dX7_settleWhole_2 (by decide) ?_
  refine lv_icmp_ne (tgt := 11) hx hb dX7_settleWhole_4 (by decide) (fun c => ?_) (fun c => ?_)
  · replace hF := iF c hF
    refine lv_iconst (v := (4 : Int32)) hx hb dX7_settleWhole_11 (by decide) ?_
    exact (k_X7_settleWhole_12 l D hT aT yT) C X (lv_sub hl [0] rfl) hF
  · replace hF := iT c hF
    refine lv_iconst (v := (5 : Int32)) hx hb dX7_settleWhole_7 (by decide) ?_
    refine lv_goto (tgt := 12) hx hb dX7_settleWhole_8 (by decide) ?_
    exact (k_X7_settleWhole_12 l D hT aT yT) C X (lv_sub hl [0] rfl) hF

/-! ### X7_settleReal -/
theorem dX7_settleReal_0 : decode cX7_settleReal 0 = .ok (.iload_n 1, 1) := by decide +kernel
theorem dX7_settleReal_1 : decode cX7_settleReal 1 = .ok (.bipush 108, 2) := by decide +kernel
theorem dX7_settleReal_3 : decode cX7_settleReal 3 = .ok (.if_icmp .eq 12, 3) := by decide +kernel
theorem dX7_settleReal_6 : decode cX7_settleReal 6 = .ok (.aload_n 0, 1) := by decide +kernel
theorem dX7_settleReal_7 : decode cX7_settleReal 7 = .ok (.getfield 38, 3) := by decide +kernel
theorem dX7_settleReal_10 : decode cX7_settleReal 10 = .ok (.bipush 15, 2) := by decide +kernel
theorem dX7_settleReal_12 : decode cX7_settleReal 12 = .ok (.if_icmp .le 4, 3) := by decide +kernel
theorem dX7_settleReal_15 : decode cX7_settleReal 15 = .ok (.return_, 1) := by decide +kernel
theorem dX7_settleReal_16 : decode cX7_settleReal 16 = .ok (.dconst 1, 1) := by decide +kernel
theorem dX7_settleReal_17 : decode cX7_settleReal 17 = .ok (.dstore 4, 2) := by decide +kernel
theorem dX7_settleReal_19 : decode cX7_settleReal 19 = .ok (.iconst 0, 1) := by decide +kernel
theorem dX7_settleReal_20 : decode cX7_settleReal 20 = .ok (.istore 6, 2) := by decide +kernel
theorem dX7_settleReal_22 : decode cX7_settleReal 22 = .ok (.iload 6, 2) := by decide +kernel
theorem dX7_settleReal_24 : decode cX7_settleReal 24 = .ok (.iload_n 2, 1) := by decide +kernel
theorem dX7_settleReal_25 : decode cX7_settleReal 25 = .ok (.if_icmp .ge 17, 3) := by decide +kernel
theorem dX7_settleReal_28 : decode cX7_settleReal 28 = .ok (.dload 4, 2) := by decide +kernel
theorem dX7_settleReal_30 : decode cX7_settleReal 30 = .ok (.ldc2_w 122, 3) := by decide +kernel
theorem dX7_settleReal_33 : decode cX7_settleReal 33 = .ok (.dmul, 1) := by decide +kernel
theorem dX7_settleReal_34 : decode cX7_settleReal 34 = .ok (.dstore 4, 2) := by decide +kernel
theorem dX7_settleReal_36 : decode cX7_settleReal 36 = .ok (.iinc 6 1, 3) := by decide +kernel
theorem dX7_settleReal_39 : decode cX7_settleReal 39 = .ok (.goto (-17), 3) := by decide +kernel
theorem dX7_settleReal_42 : decode cX7_settleReal 42 = .ok (.aload_n 0, 1) := by decide +kernel
theorem dX7_settleReal_43 : decode cX7_settleReal 43 = .ok (.iload_n 1, 1) := by decide +kernel
theorem dX7_settleReal_44 : decode cX7_settleReal 44 = .ok (.bipush 102, 2) := by decide +kernel
theorem dX7_settleReal_46 : decode cX7_settleReal 46 = .ok (.if_icmp .ne 8, 3) := by decide +kernel
theorem dX7_settleReal_49 : decode cX7_settleReal 49 = .ok (.bipush 6, 2) := by decide +kernel
theorem dX7_settleReal_51 : decode cX7_settleReal 51 = .ok (.goto 5, 3) := by decide +kernel
theorem dX7_settleReal_54 : decode cX7_settleReal 54 = .ok (.bipush 7, 2) := by decide +kernel
theorem dX7_settleReal_56 : decode cX7_settleReal 56 = .ok (.putfield 27, 3) := by decide +kernel
theorem dX7_settleReal_59 : decode cX7_settleReal 59 = .ok (.aload_n 0, 1) := by decide +kernel
theorem dX7_settleReal_60 : decode cX7_settleReal 60 = .ok (.aload_n 0, 1) := by decide +kernel
theorem dX7_settleReal_61 : decode cX7_settleReal 61 = .ok (.getfield 49, 3) := by decide +kernel
theorem dX7_settleReal_64 : decode cX7_settleReal 64 = .ok (.aload_n 0, 1) := by decide +kernel
theorem dX7_settleReal_65 : decode cX7_settleReal 65 = .ok (.getfield 30, 3) := by decide +kernel
theorem dX7_settleReal_68 : decode cX7_settleReal 68 = .ok (.l2d, 1) := by decide +kernel
theorem dX7_settleReal_69 : decode cX7_settleReal 69 = .ok (.dload 4, 2) := by decide +kernel
theorem dX7_settleReal_71 : decode cX7_settleReal 71 = .ok (.ddiv, 1) := by decide +kernel
theorem dX7_settleReal_72 : decode cX7_settleReal 72 = .ok (.iload_n 3, 1) := by decide +kernel
theorem dX7_settleReal_73 : decode cX7_settleReal 73 = .ok (.invokevirtual 124, 3) := by decide +kernel
theorem dX7_settleReal_76 : decode cX7_settleReal 76 = .ok (.putfield 34, 3) := by decide +kernel
theorem dX7_settleReal_79 : decode cX7_settleReal 79 = .ok (.aload_n 0, 1) := by decide +kernel
theorem dX7_settleReal_80 : decode cX7_settleReal 80 = .ok (.getfield 27, 3) := by decide +kernel
theorem dX7_settleReal_83 : decode cX7_settleReal 83 = .ok (.bipush 6, 2) := by decide +kernel
theorem dX7_settleReal_85 : decode cX7_settleReal 85 = .ok (.if_icmp .ne 13, 3) := by decide +kernel
theorem dX7_settleReal_88 : decode cX7_settleReal 88 = .ok (.aload_n 0, 1) := by decide +kernel
theorem dX7_settleReal_89 : decode cX7_settleReal 89 = .ok (.aload_n 0, 1) := by decide +kernel
theorem dX7_settleReal_90 : decode cX7_settleReal 90 = .ok (.getfield 34, 3) := by decide +kernel
theorem dX7_settleReal_93 : decode cX7_settleReal 93 = .ok (.d2f, 1) := by decide +kernel
theorem dX7_settleReal_94 : decode cX7_settleReal 94 = .ok (.f2d, 1) := by decide +kernel
theorem dX7_settleReal_95 : decode cX7_settleReal 95 = .ok (.putfield 34, 3) := by decide +kernel
theorem dX7_settleReal_98 : decode cX7_settleReal 98 = .ok (.aload_n 0, 1) := by decide +kernel
theorem dX7_settleReal_99 : decode cX7_settleReal 99 = .ok (.lconst 0, 1) := by decide +kernel
theorem dX7_settleReal_100 : decode cX7_settleReal 100 = .ok (.putfield 30, 3) := by decide +kernel
theorem dX7_settleReal_103 : decode cX7_settleReal 103 = .ok (.aload_n 0, 1) := by decide +kernel
theorem dX7_settleReal_104 : decode cX7_settleReal 104 = .ok (.getfield 34, 3) := by decide +kernel
theorem dX7_settleReal_107 : decode cX7_settleReal 107 = .ok (.invokestatic 130, 3) := by decide +kernel
theorem dX7_settleReal_110 : decode cX7_settleReal 110 = .ok (.ifCond .ne 8, 3) := by decide +kernel
theorem dX7_settleReal_113 : decode cX7_settleReal 113 = .ok (.aload_n 0, 1) := by decide +kernel
theorem dX7_settleReal_114 : decode cX7_settleReal 114 = .ok (.iconst 3, 1) := by decide +kernel
theorem dX7_settleReal_115 : decode cX7_settleReal 115 = .ok (.putfield 18, 3) := by decide +kernel
theorem dX7_settleReal_118 : decode cX7_settleReal 118 = .ok (.return_, 1) := by decide +kernel
abbrev R_X7_settleReal : Room := ({ frames := 1, cells := 0, slots := 0, locals := 26 } : Room)
def b_X7_settleReal_98 (n : Nat) (rec : (Gs → Gs → Gs → Int32 → Int32 → Int32 → UInt64 → Int32 → Option (Gs))) (gT : Gs) (gT_0 : Gs) (gT_1 : Gs) : Option (Gs) :=
  bnd (f_X6_isBeyond (gD gT 9)) (fun q_4 => if q_4 = 0 then (some (sI (sL gT 8 (0 : Int64)) 4 (3 : Int32))) else (some (sL gT 8 (0 : Int64))))
def b_X7_settleReal_56 (n : Nat) (rec : (Gs → Gs → Gs → Int32 → Int32 → Int32 → UInt64 → Int32 → Option (Gs))) (gT : Gs) (gT_0 : Gs) (gT_1 : Gs) (v3 : Int32) (v4 : UInt64) (s0 : Int32) : Option (Gs) :=
  grd (n64 (FP.ddiv (FP.l2d (gL gT 8)) v4)) (bnd (f_X6_scaled gT_1 (FP.ddiv (FP.l2d (gL gT 8)) v4) v3) (fun q_2 => if s0 = (6 : Int32) then (grd (n32 (FP.d2f q_2)) (grd (n64 (FP.f2d (FP.d2f q_2))) (b_X7_settleReal_98 n rec (sD (sD (sI gT 7 s0) 9 q_2) 9 (FP.f2d (FP.d2f q_2))) gT_0 gT_1))) else (b_X7_settleReal_98 n rec (sD (sI gT 7 s0) 9 q_2) gT_0 gT_1)))
def h_X7_settleReal_22 (n : Nat) (rec : (Gs → Gs → Gs → Int32 → Int32 → Int32 → UInt64 → Int32 → Option (Gs))) (gT : Gs) (gT_0 : Gs) (gT_1 : Gs) (v1 : Int32) (v2 : Int32) (v3 : Int32) (v4 : UInt64) (v6 : Int32) : Option (Gs) :=
  if v2 ≤ v6 then (if v1 = (102 : Int32) then (b_X7_settleReal_56 n rec gT gT_0 gT_1 v3 v4 (6 : Int32)) else (b_X7_settleReal_56 n rec gT gT_0 gT_1 v3 v4 (7 : Int32))) else (grd (n64 (FP.dmul v4 (4621819117588971520 : UInt64))) (rec gT gT_0 gT_1 v1 v2 v3 (FP.dmul v4 (4621819117588971520 : UInt64)) (v6 + (1 : Int32))))
def L_X7_settleReal (n : Nat) : Nat → (Gs → Gs → Gs → Int32 → Int32 → Int32 → UInt64 → Int32 → Option (Gs))
  | 0 => ((fun _ _ _ _ _ _ _ _ => none))
  | k + 1 => (h_X7_settleReal_22 n (L_X7_settleReal n k))
def f_X7_settleReal (n : Nat) (gT : Gs) (gT_0 : Gs) (gT_1 : Gs) (x0 : Int32) (x1 : Int32) (x2 : Int32) : Option (Gs) :=
  if x0 = (108 : Int32) then (some gT) else (if (gI gT 10) ≤ (15 : Int32) then ((L_X7_settleReal n n) gT gT_0 gT_1 x0 x1 x2 FP.dconst1 (0 : Int32)) else (some gT))
def S_X7_settleReal_98 (l : Launch) (D : Dx) (hT : Nat) (aT : Nat → Nat) (yT : Nat → ClassId) (aT_0 : Nat → Nat) (yT_0 : Nat → ClassId) (aT_1 : Nat → Nat) (yT_1 : Nat → ClassId) (fn : Gs → Gs → Gs → Option (Gs)) : Prop :=
  ∀ {p : Program} {e : Env} {s : State} {m : MethodId} {args : Array Value} {below : List Frame} {meth : Method} {c : Code} {H : Heap} {locs : List Loc} {A : Nat → Prop} {ls : Array Slot} {gT : Gs} {gT_0 : Gs} {gT_1 : Gs} {q : Gs}, Cx p s m args meth c cX7_settleReal none 7 RX7 lw_all → Hx D (tX7 yT ++ (tTP yT_0 ++ (tX6 yT_1))) A s H locs (wX7 hT aT yT gT ++ (wTP (aT 0) aT_0 yT_0 gT_0 ++ (wX6 (aT 1) aT_1 yT_1 gT_1))) → lv_has ls 7 [(0, .ref hT)] → fn gT gT_0 gT_1 = some q → W p l e R_X7_settleReal s m args below meth c H locs 0 0 (MQ below (QV D A (wX7 hT aT yT q ++ (wTP (aT 0) aT_0 yT_0 gT_0 ++ (wX6 (aT 1) aT_1 yT_1 gT_1)))) args s 0 0 A) (F0 m 98 ls [])
def S_X7_settleReal_56 (l : Launch) (D : Dx) (hT : Nat) (aT : Nat → Nat) (yT : Nat → ClassId) (aT_0 : Nat → Nat) (yT_0 : Nat → ClassId) (aT_1 : Nat → Nat) (yT_1 : Nat → ClassId) (fn : Gs → Gs → Gs → Int32 → UInt64 → Int32 → Option (Gs)) : Prop :=
  ∀ {p : Program} {e : Env} {s : State} {m : MethodId} {args : Array Value} {below : List Frame} {meth : Method} {c : Code} {H : Heap} {locs : List Loc} {A : Nat → Prop} {ls : Array Slot} {gT : Gs} {gT_0 : Gs} {gT_1 : Gs} {v3 : Int32} {v4 : UInt64} {s0 : Int32} {q : Gs}, Cx p s m args meth c cX7_settleReal none 7 RX7 lw_all → Hx D (tX7 yT ++ (tTP yT_0 ++ (tX6 yT_1))) A s H locs (wX7 hT aT yT gT ++ (wTP (aT 0) aT_0 yT_0 gT_0 ++ (wX6 (aT 1) aT_1 yT_1 gT_1))) → lv_has ls 7 [(0, .ref hT), (3, .int v3), (4, .double v4)] → fn gT gT_0 gT_1 v3 v4 s0 = some q → W p l e R_X7_settleReal s m args below meth c H locs 0 0 (MQ below (QV D A (wX7 hT aT yT q ++ (wTP (aT 0) aT_0 yT_0 gT_0 ++ (wX6 (aT 1) aT_1 yT_1 gT_1)))) args s 0 0 A) (F0 m 56 ls [.int s0, .ref hT])
def S_X7_settleReal_22 (l : Launch) (D : Dx) (hT : Nat) (aT : Nat → Nat) (yT : Nat → ClassId) (aT_0 : Nat → Nat) (yT_0 : Nat → ClassId) (aT_1 : Nat → Nat) (yT_1 : Nat → ClassId) (fn : Gs → Gs → Gs → Int32 → Int32 → Int32 → UInt64 → Int32 → Option (Gs)) : Prop :=
  ∀ {p : Program} {e : Env} {s : State} {m : MethodId} {args : Array Value} {below : List Frame} {meth : Method} {c : Code} {H : Heap} {locs : List Loc} {A : Nat → Prop} {ls : Array Slot} {gT : Gs} {gT_0 : Gs} {gT_1 : Gs} {v1 : Int32} {v2 : Int32} {v3 : Int32} {v4 : UInt64} {v6 : Int32} {q : Gs}, Cx p s m args meth c cX7_settleReal none 7 RX7 lw_all → Hx D (tX7 yT ++ (tTP yT_0 ++ (tX6 yT_1))) A s H locs (wX7 hT aT yT gT ++ (wTP (aT 0) aT_0 yT_0 gT_0 ++ (wX6 (aT 1) aT_1 yT_1 gT_1))) → lv_has ls 7 [(0, .ref hT), (1, .int v1), (2, .int v2), (3, .int v3), (4, .double v4), (6, .int v6)] → fn gT gT_0 gT_1 v1 v2 v3 v4 v6 = some q → W p l e R_X7_settleReal s m args below meth c H locs 0 0 (MQ below (QV D A (wX7 hT aT yT q ++ (wTP (aT 0) aT_0 yT_0 gT_0 ++ (wX6 (aT 1) aT_1 yT_1 gT_1)))) args s 0 0 A) (F0 m 22 ls [])
def SH_X7_settleReal (l : Launch) (D : Dx) (hT : Nat) (aT : Nat → Nat) (yT : Nat → ClassId) (aT_0 : Nat → Nat) (yT_0 : Nat → ClassId) (aT_1 : Nat → Nat) (yT_1 : Nat → ClassId) (rec : (Gs → Gs → Gs → Int32 → Int32 → Int32 → UInt64 → Int32 → Option (Gs))) : Prop := S_X7_settleReal_22 l D hT aT yT aT_0 yT_0 aT_1 yT_1 rec
set_option maxHeartbeats 4000000 in
set_option maxRecDepth 100000 in
theorem k_X7_settleReal_98 (l : Launch) (D : Dx) (hT : Nat) (aT : Nat → Nat) (yT : Nat → ClassId) (aT_0 : Nat → Nat) (yT_0 : Nat → ClassId) (aT_1 : Nat → Nat) (yT_1 : Nat → ClassId) (n : Nat) (rec : (Gs → Gs → Gs → Int32 → Int32 → Int32 → UInt64 → Int32 → Option (Gs))) (IH : SH_X7_settleReal l D hT aT yT aT_0 yT_0 aT_1 yT_1 rec) : S_X7_settleReal_98 l D hT aT yT aT_0 yT_0 aT_1 yT_1 (b_X7_settleReal_98 n rec) := by
  intro p e s m args below meth c H locs A ls gT gT_0 gT_1 q C X hl hF
  obtain ⟨hx, hb, hr, hml, hown, hts, hlk⟩ := id C
  unfold b_X7_settleReal_98 at hF
  refine lv_aload_n hx hb dX7_settleReal_98 rfl (lv_at hl 0 rfl) ?_
  refine lv_lconst (v := (0 : Int64)) hx hb dX7_settleReal_99 (by decide) ?_
  refine va_put (D := D.1) (ci := 7) (v := .long (0 : Int64)) (ty := .long) (C := RX7) (T := TX7) (N := 12) hx hb hts wi_X7 tyX7 tyX7_ok nmX7 hown X.1 X.2.1 X.2.2.1 X.2.2.2.1 0 rfl rfl 8 (by decide) (hts _ q3_7) (fun _ h9 => h9) rfl (by decide +kernel) rfl rfl (by rw [List.length_map, List.length_range]; decide) dX7_settleReal_100 (fun H locs hP hD hS => ?_)
  have X : Hx D (tX7 yT ++ (tTP yT_0 ++ (tX6 yT_1))) A s H locs (wX7 hT aT yT (sL gT 8 (0 : Int64)) ++ (wTP (aT 0) aT_0 yT_0 gT_0 ++ (wX6 (aT 1) aT_1 yT_1 gT_1))) := Hx_set X (set_l (by rw [wG_len (m := 1) rfl]; decide) (wG_sL (k := 8) rfl)) hP hD hS
  refine lv_aload_n hx hb dX7_settleReal_103 rfl (lv_at hl 0 rfl) ?_
  refine va_get (D := D.1) (ci := 7) (v := .double (gD gT 9)) (C := RX7) (T := TX7) (N := 12) hx hb hts wi_X7 hown X.1 X.2.1 0 rfl rfl 9 (by decide) (hts _ q3_9) (fun _ h9 => h9) (fl_get (by decide)) dX7_settleReal_104 ?_
  obtain ⟨q_4, hc_5, hF⟩ := bnd_some hF
  refine cS_i (As := [.double (gD gT 9)]) (rest := []) C X (c_X6_isBeyond l D  (gD gT 9) q_4 hc_5 _) (va_cwS 1 hts (good_S q3_215 q3_216 q1_2 q3_217) rfl rfl rfl (by decide +kernel) ⟨Nat.le_of_ble_eq_true rfl, Nat.le_of_ble_eq_true rfl⟩) (eK X) eP (eD (A := A)) (eF X) hl.1 rfl rfl (Nat.le_of_ble_eq_true rfl) dX7_settleReal_107 ⟨Nat.le_of_ble_eq_true rfl, Nat.le_of_ble_eq_true rfl⟩ (fun t H1 locs1 ht hB hk hS => ?_)
  have X := Hx_after_none X hk hS
  clear hk hS ht hB
  generalize H1 = H at X ⊢
  generalize locs1 = locs at X ⊢
  refine lv_if_ne (tgt := 118) hx hb dX7_settleReal_110 (by decide) (fun c => ?_) (fun c => ?_)
  · replace hF := iF c hF
    have hq := Option.some.inj hF
    subst hq
    exact rt_v C X dX7_settleReal_118
  · replace hF := iT c hF
    refine lv_aload_n hx hb dX7_settleReal_113 rfl (lv_at hl 0 rfl) ?_
    refine lv_iconst (v := (3 : Int32)) hx hb dX7_settleReal_114 (by decide) ?_
    refine va_put (D := D.1) (ci := 7) (v := .int (3 : Int32)) (ty := .int) (C := RX7) (T := TX7) (N := 12) hx hb hts wi_X7 tyX7 tyX7_ok nmX7 hown X.1 X.2.1 X.2.2.1 X.2.2.2.1 0 rfl rfl 4 (by decide) (hts _ q2_239) (fun _ h9 => h9) rfl (by decide +kernel) rfl rfl (by rw [List.length_map, List.length_range]; decide) dX7_settleReal_115 (fun H locs hP hD hS => ?_)
    have X : Hx D (tX7 yT ++ (tTP yT_0 ++ (tX6 yT_1))) A s H locs (wX7 hT aT yT (sI (sL gT 8 (0 : Int64)) 4 (3 : Int32)) ++ (wTP (aT 0) aT_0 yT_0 gT_0 ++ (wX6 (aT 1) aT_1 yT_1 gT_1))) := Hx_set X (set_l (by rw [wG_len (m := 1) rfl]; decide) (wG_sI (k := 4) rfl)) hP hD hS
    have hq := Option.some.inj hF
    subst hq
    exact rt_v C X dX7_settleReal_118
set_option maxHeartbeats 4000000 in
set_option maxRecDepth 100000 in
theorem k_X7_settleReal_56 (l : Launch) (D : Dx) (hT : Nat) (aT : Nat → Nat) (yT : Nat → ClassId) (aT_0 : Nat → Nat) (yT_0 : Nat → ClassId) (aT_1 : Nat → Nat) (yT_1 : Nat → ClassId) (n : Nat) (rec : (Gs → Gs → Gs → Int32 → Int32 → Int32 → UInt64 → Int32 → Option (Gs))) (IH : SH_X7_settleReal l D hT aT yT aT_0 yT_0 aT_1 yT_1 rec) : S_X7_settleReal_56 l D hT aT yT aT_0 yT_0 aT_1 yT_1 (b_X7_settleReal_56 n rec) := by
  intro p e s m args below meth c H locs A ls gT gT_0 gT_1 v3 v4 s0 q C X hl hF
  obtain ⟨hx, hb, hr, hml, hown, hts, hlk⟩ := id C
  unfold b_X7_settleReal_56 at hF
  refine va_put (D := D.1) (ci := 7) (v := .int s0) (ty := .int) (C := RX7) (T := TX7) (N := 12) hx hb hts wi_X7 tyX7 tyX7_ok nmX7 hown X.1 X.2.1 X.2.2.1 X.2.2.2.1 0 rfl rfl 7 (by decide) (hts _ q3_5) (fun _ h9 => h9) rfl (by decide +kernel) rfl rfl (by rw [List.length_map, List.length_range]; decide) dX7_settleReal_56 (fun H locs hP hD hS => ?_)
  have X : Hx D (tX7 yT ++ (tTP yT_0 ++ (tX6 yT_1))) A s H locs (wX7 hT aT yT (sI gT 7 s0) ++ (wTP (aT 0) aT_0 yT_0 gT_0 ++ (wX6 (aT 1) aT_1 yT_1 gT_1))) := Hx_set X (set_l (by rw [wG_len (m := 1) rfl]; decide) (wG_sI (k := 7) rfl)) hP hD hS
  refine lv_aload_n hx hb dX7_settleReal_59 rfl (lv_at hl 0 rfl) ?_
  refine lv_aload_n hx hb dX7_settleReal_60 rfl (lv_at hl 0 rfl) ?_
  refine va_get (D := D.1) (ci := 7) (v := .ref (aT 1)) (C := RX7) (T := TX7) (N := 12) hx hb hts wi_X7 hown X.1 X.2.1 0 rfl rfl 1 (by decide) (hts _ q2_236) (fun _ h9 => h9) (fl_get (by decide)) dX7_settleReal_61 ?_
  refine lv_aload_n hx hb dX7_settleReal_64 rfl (lv_at hl 0 rfl) ?_
  refine va_get (D := D.1) (ci := 7) (v := .long (gL gT 8)) (C := RX7) (T := TX7) (N := 12) hx hb hts wi_X7 hown X.1 X.2.1 0 rfl rfl 8 (by decide) (hts _ q3_7) (fun _ h9 => h9) (fl_get (by decide)) dX7_settleReal_65 ?_
  refine lv_l2d hx hb dX7_settleReal_68 ?_
  refine lv_dload hx hb dX7_settleReal_69 (lv_at hl 2 rfl) ?_
  obtain ⟨h_1, hF⟩ := grd_some hF
  refine lv_ddiv hx hb dX7_settleReal_71 (n64_ok h_1) ?_
  refine lv_iload_n hx hb dX7_settleReal_72 rfl (lv_at hl 1 rfl) ?_
  obtain ⟨q_2, hc_3, hF⟩ := bnd_some hF
  refine cV_d (As := [.double (FP.ddiv (FP.l2d (gL gT 8)) v4), .int v3]) (rest := [.ref hT]) C X (c_X6_scaled l D (aT 1) aT_1 yT_1 gT_1 (FP.ddiv (FP.l2d (gL gT 8)) v4) v3 q_2 hc_3 _) (cwV 2 hts (good_V q3_211 q3_212 q3_213 q1_2 q3_214) rfl rfl rfl (by decide +kernel) ⟨Nat.le_of_ble_eq_true rfl, Nat.le_of_ble_eq_true rfl⟩) (va_recv X.1 X.2.1 (ci := 6) (q0 := 2) rfl rfl) (X.1.sub (tys' := tX6 yT_1) [1] rfl) (X.2.1.sub (ws' := wX6 (aT 1) aT_1 yT_1 gT_1) [2, 3] rfl) (X.2.2.1.sub (ws' := wX6 (aT 1) aT_1 yT_1 gT_1) [2, 3] (by decide) rfl) (free_of (wC := wX6 (aT 1) aT_1 yT_1 gT_1) (isC := [2, 3]) X rfl) hl.1 rfl rfl (Nat.le_of_ble_eq_true rfl) dX7_settleReal_73 ⟨Nat.le_of_ble_eq_true rfl, Nat.le_of_ble_eq_true rfl⟩ (fun t H1 locs1 ht hB hk hS => ?_)
  have X : Hx D (tX7 yT ++ (tTP yT_0 ++ (tX6 yT_1))) A s H1 locs1 (wX7 hT aT yT (sI gT 7 s0) ++ (wTP (aT 0) aT_0 yT_0 gT_0 ++ (wX6 (aT 1) aT_1 yT_1 gT_1))) := Hx_after (isC := [2, 3]) (isR := [0, 1]) (pm := [0, 1, 2, 3]) (wr := wX7 hT aT yT (sI gT 7 s0) ++ (wTP (aT 0) aT_0 yT_0 gT_0)) X ⟨rfl, rfl, by decide, by decide, rfl, by decide⟩ ht hB hk hS
  clear hk hS ht hB
  generalize H1 = H at X ⊢
  generalize locs1 = locs at X ⊢
  refine va_put (D := D.1) (ci := 7) (v := .double q_2) (ty := .double) (C := RX7) (T := TX7) (N := 12) hx hb hts wi_X7 tyX7 tyX7_ok nmX7 hown X.1 X.2.1 X.2.2.1 X.2.2.2.1 0 rfl rfl 9 (by decide) (hts _ q3_9) (fun _ h9 => h9) rfl (by decide +kernel) rfl rfl (by rw [List.length_map, List.length_range]; decide) dX7_settleReal_76 (fun H locs hP hD hS => ?_)
  have X : Hx D (tX7 yT ++ (tTP yT_0 ++ (tX6 yT_1))) A s H locs (wX7 hT aT yT (sD (sI gT 7 s0) 9 q_2) ++ (wTP (aT 0) aT_0 yT_0 gT_0 ++ (wX6 (aT 1) aT_1 yT_1 gT_1))) := Hx_set X (set_l (by rw [wG_len (m := 1) rfl]; decide) (wG_sD (k := 9) rfl)) hP hD hS
  refine lv_aload_n hx hb dX7_settleReal_79 rfl (lv_at hl 0 rfl) ?_
  refine va_get (D := D.1) (ci := 7) (v := .int s0) (C := RX7) (T := TX7) (N := 12) hx hb hts wi_X7 hown X.1 X.2.1 0 rfl rfl 7 (by decide) (hts _ q3_5) (fun _ h9 => h9) (fl_get (by decide)) dX7_settleReal_80 ?_
  refine lv_bipush (v := (6 : Int32)) hx hb dX7_settleReal_83 (by decide) ?_
  refine lv_icmp_ne (tgt := 98) hx hb dX7_settleReal_85 (by decide) (fun c => ?_) (fun c => ?_)
  · replace hF := iF c hF
    exact (k_X7_settleReal_98 l D hT aT yT aT_0 yT_0 aT_1 yT_1 n rec IH) C X (lv_sub hl [0] rfl) hF
  · replace hF := iT c hF
    refine lv_aload_n hx hb dX7_settleReal_88 rfl (lv_at hl 0 rfl) ?_
    refine lv_aload_n hx hb dX7_settleReal_89 rfl (lv_at hl 0 rfl) ?_
    refine va_get (D := D.1) (ci := 7) (v := .double q_2) (C := RX7) (T := TX7) (N := 12) hx hb hts wi_X7 hown X.1 X.2.1 0 rfl rfl 9 (by decide) (hts _ q3_9) (fun _ h9 => h9) (fl_get (by decide)) dX7_settleReal_90 ?_
    obtain ⟨h_6, hF⟩ := grd_some hF
    refine lv_d2f hx hb dX7_settleReal_93 (n32_ok h_6) ?_
    obtain ⟨h_7, hF⟩ := grd_some hF
    refine lv_f2d hx hb dX7_settleReal_94 (n64_ok h_7) ?_
    refine va_put (D := D.1) (ci := 7) (v := .double (FP.f2d (FP.d2f q_2))) (ty := .double) (C := RX7) (T := TX7) (N := 12) hx hb hts wi_X7 tyX7 tyX7_ok nmX7 hown X.1 X.2.1 X.2.2.1 X.2.2.2.1 0 rfl rfl 9 (by decide) (hts _ q3_9) (fun _ h9 => h9) rfl (by decide +kernel) rfl rfl (by rw [List.length_map, List.length_range]; decide) dX7_settleReal_95 (fun H locs hP hD hS => ?_)
    have X : Hx D (tX7 yT ++ (tTP yT_0 ++ (tX6 yT_1))) A s H locs (wX7 hT aT yT (sD (sD (sI gT 7 s0) 9 q_2) 9 (FP.f2d (FP.d2f q_2))) ++ (wTP (aT 0) aT_0 yT_0 gT_0 ++ (wX6 (aT 1) aT_1 yT_1 gT_1))) := Hx_set X (set_l (by rw [wG_len (m := 1) rfl]; decide) (wG_sD (k := 9) rfl)) hP hD hS
    exact (k_X7_settleReal_98 l D hT aT yT aT_0 yT_0 aT_1 yT_1 n rec IH) C X (lv_sub hl [0] rfl) hF
set_option maxHeartbeats 4000000 in
set_option maxRecDepth 100000 in
theorem k_X7_settleReal_22 (l : Launch) (D : Dx) (hT : Nat) (aT : Nat → Nat) (yT : Nat → ClassId) (aT_0 : Nat → Nat) (yT_0 : Nat → ClassId) (aT_1 : Nat → Nat) (yT_1 : Nat → ClassId) (n : Nat) (rec : (Gs → Gs → Gs → Int32 → Int32 → Int32 → UInt64 → Int32 → Option (Gs))) (IH : SH_X7_settleReal l D hT aT yT aT_0 yT_0 aT_1 yT_1 rec) : S_X7_settleReal_22 l D hT aT yT aT_0 yT_0 aT_1 yT_1 (h_X7_settleReal_22 n rec) := by
  intro p e s m args below meth c H locs A ls gT gT_0 gT_1 v1 v2 v3 v4 v6 q C X hl hF
  obtain ⟨hx, hb, hr, hml, hown, hts, hlk⟩ := id C
  unfold h_X7_settleReal_22 at hF
  refine lv_iload hx hb dX7_settleReal_22 (lv_at hl 5 rfl) ?_
  refine lv_iload_n hx hb dX7_settleReal_24 rfl (lv_at hl 2 rfl) ?_
  refine lv_icmp_ge (tgt := 42) hx hb dX7_settleReal_25 (by decide) (fun c => ?_) (fun c => ?_)
  · replace hF := iT c hF
    refine lv_aload_n hx hb dX7_settleReal_42 rfl (lv_at hl 0 rfl) ?_
    refine lv_iload_n hx hb dX7_settleReal_43 rfl (lv_at hl 1 rfl) ?_
    refine lv_bipush (v := (102 : Int32)) hx hb dX7_settleReal_44 (by decide) ?_
    refine lv_icmp_ne (tgt := 54) hx hb dX7_settleReal_46 (by decide) (fun c => ?_) (fun c => ?_)
    · replace hF := iF c hF
      refine lv_bipush (v := (7 : Int32)) hx hb dX7_settleReal_54 (by decide) ?_
      exact (k_X7_settleReal_56 l D hT aT yT aT_0 yT_0 aT_1 yT_1 n rec IH) C X (lv_sub hl [0, 3, 4] rfl) hF
    · replace hF := iT c hF
      refine lv_bipush (v := (6 : Int32)) hx hb dX7_settleReal_49 (by decide) ?_
      refine lv_goto (tgt := 56) hx hb dX7_settleReal_51 (by decide) ?_
      exact (k_X7_settleReal_56 l D hT aT yT aT_0 yT_0 aT_1 yT_1 n rec IH) C X (lv_sub hl [0, 3, 4] rfl) hF
  · replace hF := iF c hF
    refine lv_dload hx hb dX7_settleReal_28 (lv_at hl 4 rfl) ?_
    refine lv_ldc2d hx hb hown (hts _ q3_210) dX7_settleReal_30 ?_
    obtain ⟨h_8, hF⟩ := grd_some hF
    refine lv_dmul hx hb dX7_settleReal_33 (n64_ok h_8) ?_
    refine lv_dstore (lv' := [(4, .double (FP.dmul v4 (4621819117588971520 : UInt64))), (0, .ref hT), (1, .int v1), (2, .int v2), (3, .int v3), (6, .int v6)]) hx hb dX7_settleReal_34 hl (by decide) rfl (fun ls hl => ?_)
    refine lv_iinc (v := v6 + (1 : Int32)) (lv' := [(6, .int (v6 + (1 : Int32))), (4, .double (FP.dmul v4 (4621819117588971520 : UInt64))), (0, .ref hT), (1, .int v1), (2, .int v2), (3, .int v3)]) hx hb dX7_settleReal_36 hl (k := 5) rfl rfl (by decide) rfl (fun ls hl => ?_)
    refine lv_goto (tgt := 22) hx hb dX7_settleReal_39 (by decide) ?_
    exact IH C X (lv_sub hl [2, 3, 4, 5, 1, 0] rfl) hF
theorem kL_X7_settleReal (l : Launch) (D : Dx) (hT : Nat) (aT : Nat → Nat) (yT : Nat → ClassId) (aT_0 : Nat → Nat) (yT_0 : Nat → ClassId) (aT_1 : Nat → Nat) (yT_1 : Nat → ClassId) (n : Nat) : ∀ k, SH_X7_settleReal l D hT aT yT aT_0 yT_0 aT_1 yT_1 (L_X7_settleReal n k)
  | 0 => fun _ _ _ h => by cases h
  | k + 1 => k_X7_settleReal_22 l D hT aT yT aT_0 yT_0 aT_1 yT_1 n _ (kL_X7_settleReal l D hT aT yT aT_0 yT_0 aT_1 yT_1 n k)
set_option maxHeartbeats 4000000 in
set_option maxRecDepth 100000 in
theorem c_X7_settleReal (l : Launch) (D : Dx) (hT : Nat) (aT : Nat → Nat) (yT : Nat → ClassId) (aT_0 : Nat → Nat) (yT_0 : Nat → ClassId) (aT_1 : Nat → Nat) (yT_1 : Nat → ClassId) (n : Nat) (gT : Gs) (gT_0 : Gs) (gT_1 : Gs) (x0 : Int32) (x1 : Int32) (x2 : Int32) (q : Gs) (hF : f_X7_settleReal n gT gT_0 gT_1 x0 x1 x2 = some q) (sz : Nat) : Met l yX7_settleReal (ws_ yX7_settleReal cX7_settleReal 7 none) R_X7_settleReal (PC D (tX7 yT ++ (tTP yT_0 ++ (tX6 yT_1))) [.ref hT, .int x0, .int x1, .int x2] (wX7 hT aT yT gT ++ (wTP (aT 0) aT_0 yT_0 gT_0 ++ (wX6 (aT 1) aT_1 yT_1 gT_1))) sz) (QV D (va_A (wX7 hT aT yT gT ++ (wTP (aT 0) aT_0 yT_0 gT_0 ++ (wX6 (aT 1) aT_1 yT_1 gT_1))) sz) (wX7 hT aT yT q ++ (wTP (aT 0) aT_0 yT_0 gT_0 ++ (wX6 (aT 1) aT_1 yT_1 gT_1)))) 0 0 (va_A (wX7 hT aT yT gT ++ (wTP (aT 0) aT_0 yT_0 gT_0 ++ (wX6 (aT 1) aT_1 yT_1 gT_1))) sz) := by
  refine Met.ofW (cc := cX7_settleReal) (maxL := 7) (ret := none) (by decide) rfl ?_
  intro p e s m args below meth c s₁ B hml hv
  obtain ⟨rfl, hsz, hP, hK, hD, hN⟩ := hv
  subst hsz
  have C : Cx p s m _ meth c cX7_settleReal none 7 RX7 lw_all := Cx_of B hml
  have X := Hx_start hP hK hD hN
  obtain ⟨hx, hb, hr, -, hown, hts, hlk⟩ := id C
  generalize va_A (wX7 hT aT yT gT ++ (wTP (aT 0) aT_0 yT_0 gT_0 ++ (wX6 (aT 1) aT_1 yT_1 gT_1))) s.heap.size = A at X ⊢
  have hl := lv_entry ([.ref hT, .int x0, .int x1, .int x2]) (n := 7) (Nat.le_of_ble_eq_true rfl)
  rw [lg_entry_eq]
  generalize (lg_sl ([.ref hT, .int x0, .int x1, .int x2]) ++ List.replicate (7 - (lg_sl ([.ref hT, .int x0, .int x1, .int x2])).length) Slot.unset).toArray = ls at hl ⊢
  have hl : lv_has ls 7 [(0, .ref hT), (1, .int x0), (2, .int x1), (3, .int x2)] := hl
  unfold f_X7_settleReal at hF
  refine lv_iload_n hx hb dX7_settleReal_0 rfl (lv_at hl 1 rfl) ?_
  refine lv_bipush (v := (108 : Int32)) hx hb dX7_settleReal_1 (by decide) ?_
  refine lv_icmp_eq (tgt := 15) hx hb dX7_settleReal_3 (by decide) (fun c => ?_) (fun c => ?_)
  · replace hF := iT c hF
    have hq := Option.some.inj hF
    subst hq
    exact rt_v C X dX7_settleReal_15
  · replace hF := iF c hF
    refine lv_aload_n hx hb dX7_settleReal_6 rfl (lv_at hl 0 rfl) ?_
    refine va_get (D := D.1) (ci := 7) (v := .int (gI gT 10)) (C := RX7) (T := TX7) (N := 12) hx hb hts wi_X7 hown X.1 X.2.1 0 rfl rfl 10 (by decide) (hts _ q3_11) (fun _ h9 => h9) (fl_get (by decide)) dX7_settleReal_7 ?_
    refine lv_bipush (v := (15 : Int32)) hx hb dX7_settleReal_10 (by decide) ?_
    refine lv_icmp_le (tgt := 16) hx hb dX7_settleReal_12 (by decide) (fun c => ?_) (fun c => ?_)
    · replace hF := iT c hF
      refine lv_dconst1 hx hb dX7_settleReal_16 ?_
      refine lv_dstore (lv' := [(4, .double FP.dconst1), (0, .ref hT), (1, .int x0), (2, .int x1), (3, .int x2)]) hx hb dX7_settleReal_17 hl (by decide) rfl (fun ls hl => ?_)
      refine lv_iconst (v := (0 : Int32)) hx hb dX7_settleReal_19 (by decide) ?_
      refine lv_istore (lv' := [(6, .int (0 : Int32)), (4, .double FP.dconst1), (0, .ref hT), (1, .int x0), (2, .int x1), (3, .int x2)]) hx hb dX7_settleReal_20 hl (by decide) rfl (fun ls hl => ?_)
      exact (kL_X7_settleReal l D hT aT yT aT_0 yT_0 aT_1 yT_1 n n) C X (lv_sub hl [2, 3, 4, 5, 1, 0] rfl) hF
    · replace hF := iF c hF
      have hq := Option.some.inj hF
      subst hq
      exact rt_v C X dX7_settleReal_15

/-! ### X7_readNumber -/
theorem dX7_readNumber_0 : decode cX7_readNumber 0 = .ok (.aload_n 0, 1) := by decide +kernel
theorem dX7_readNumber_1 : decode cX7_readNumber 1 = .ok (.iconst 1, 1) := by decide +kernel
theorem dX7_readNumber_2 : decode cX7_readNumber 2 = .ok (.putfield 18, 3) := by decide +kernel
theorem dX7_readNumber_5 : decode cX7_readNumber 5 = .ok (.aload_n 0, 1) := by decide +kernel
theorem dX7_readNumber_6 : decode cX7_readNumber 6 = .ok (.lconst 0, 1) := by decide +kernel
theorem dX7_readNumber_7 : decode cX7_readNumber 7 = .ok (.putfield 30, 3) := by decide +kernel
theorem dX7_readNumber_10 : decode cX7_readNumber 10 = .ok (.aload_n 0, 1) := by decide +kernel
theorem dX7_readNumber_11 : decode cX7_readNumber 11 = .ok (.iconst 0, 1) := by decide +kernel
theorem dX7_readNumber_12 : decode cX7_readNumber 12 = .ok (.putfield 38, 3) := by decide +kernel
theorem dX7_readNumber_15 : decode cX7_readNumber 15 = .ok (.aload_n 0, 1) := by decide +kernel
theorem dX7_readNumber_16 : decode cX7_readNumber 16 = .ok (.iconst 0, 1) := by decide +kernel
theorem dX7_readNumber_17 : decode cX7_readNumber 17 = .ok (.putfield 41, 3) := by decide +kernel
theorem dX7_readNumber_20 : decode cX7_readNumber 20 = .ok (.aload_n 0, 1) := by decide +kernel
theorem dX7_readNumber_21 : decode cX7_readNumber 21 = .ok (.aload_n 0, 1) := by decide +kernel
theorem dX7_readNumber_22 : decode cX7_readNumber 22 = .ok (.getfield 15, 3) := by decide +kernel
theorem dX7_readNumber_25 : decode cX7_readNumber 25 = .ok (.invokevirtual 106, 3) := by decide +kernel
theorem dX7_readNumber_28 : decode cX7_readNumber 28 = .ok (.istore_n 1, 1) := by decide +kernel
theorem dX7_readNumber_29 : decode cX7_readNumber 29 = .ok (.iconst 0, 1) := by decide +kernel
theorem dX7_readNumber_30 : decode cX7_readNumber 30 = .ok (.istore_n 2, 1) := by decide +kernel
theorem dX7_readNumber_31 : decode cX7_readNumber 31 = .ok (.aload_n 0, 1) := by decide +kernel
theorem dX7_readNumber_32 : decode cX7_readNumber 32 = .ok (.iload_n 1, 1) := by decide +kernel
theorem dX7_readNumber_33 : decode cX7_readNumber 33 = .ok (.invokevirtual 62, 3) := by decide +kernel
theorem dX7_readNumber_36 : decode cX7_readNumber 36 = .ok (.bipush 46, 2) := by decide +kernel
theorem dX7_readNumber_38 : decode cX7_readNumber 38 = .ok (.if_icmp .ne 24, 3) := by decide +kernel
theorem dX7_readNumber_41 : decode cX7_readNumber 41 = .ok (.iload_n 1, 1) := by decide +kernel
theorem dX7_readNumber_42 : decode cX7_readNumber 42 = .ok (.istore_n 3, 1) := by decide +kernel
theorem dX7_readNumber_43 : decode cX7_readNumber 43 = .ok (.aload_n 0, 1) := by decide +kernel
theorem dX7_readNumber_44 : decode cX7_readNumber 44 = .ok (.iload_n 3, 1) := by decide +kernel
theorem dX7_readNumber_45 : decode cX7_readNumber 45 = .ok (.iconst 1, 1) := by decide +kernel
theorem dX7_readNumber_46 : decode cX7_readNumber 46 = .ok (.iadd, 1) := by decide +kernel
theorem dX7_readNumber_47 : decode cX7_readNumber 47 = .ok (.invokevirtual 106, 3) := by decide +kernel
theorem dX7_readNumber_50 : decode cX7_readNumber 50 = .ok (.istore_n 1, 1) := by decide +kernel
theorem dX7_readNumber_51 : decode cX7_readNumber 51 = .ok (.iload_n 1, 1) := by decide +kernel
theorem dX7_readNumber_52 : decode cX7_readNumber 52 = .ok (.iload_n 3, 1) := by decide +kernel
theorem dX7_readNumber_53 : decode cX7_readNumber 53 = .ok (.isub, 1) := by decide +kernel
theorem dX7_readNumber_54 : decode cX7_readNumber 54 = .ok (.iconst 1, 1) := by decide +kernel
theorem dX7_readNumber_55 : decode cX7_readNumber 55 = .ok (.isub, 1) := by decide +kernel
theorem dX7_readNumber_56 : decode cX7_readNumber 56 = .ok (.istore_n 2, 1) := by decide +kernel
theorem dX7_readNumber_57 : decode cX7_readNumber 57 = .ok (.iload_n 2, 1) := by decide +kernel
theorem dX7_readNumber_58 : decode cX7_readNumber 58 = .ok (.ifCond .ne 4, 3) := by decide +kernel
theorem dX7_readNumber_61 : decode cX7_readNumber 61 = .ok (.return_, 1) := by decide +kernel
theorem dX7_readNumber_62 : decode cX7_readNumber 62 = .ok (.aload_n 0, 1) := by decide +kernel
theorem dX7_readNumber_63 : decode cX7_readNumber 63 = .ok (.iload_n 1, 1) := by decide +kernel
theorem dX7_readNumber_64 : decode cX7_readNumber 64 = .ok (.invokevirtual 62, 3) := by decide +kernel
theorem dX7_readNumber_67 : decode cX7_readNumber 67 = .ok (.bipush 112, 2) := by decide +kernel
theorem dX7_readNumber_69 : decode cX7_readNumber 69 = .ok (.if_icmp .ne 7, 3) := by decide +kernel
theorem dX7_readNumber_72 : decode cX7_readNumber 72 = .ok (.iconst 1, 1) := by decide +kernel
theorem dX7_readNumber_73 : decode cX7_readNumber 73 = .ok (.goto 4, 3) := by decide +kernel
theorem dX7_readNumber_76 : decode cX7_readNumber 76 = .ok (.iconst 0, 1) := by decide +kernel
theorem dX7_readNumber_77 : decode cX7_readNumber 77 = .ok (.istore_n 3, 1) := by decide +kernel
theorem dX7_readNumber_78 : decode cX7_readNumber 78 = .ok (.iconst 0, 1) := by decide +kernel
theorem dX7_readNumber_79 : decode cX7_readNumber 79 = .ok (.istore 4, 2) := by decide +kernel
theorem dX7_readNumber_81 : decode cX7_readNumber 81 = .ok (.iload_n 3, 1) := by decide +kernel
theorem dX7_readNumber_82 : decode cX7_readNumber 82 = .ok (.ifCond .eq 116, 3) := by decide +kernel
theorem dX7_readNumber_85 : decode cX7_readNumber 85 = .ok (.aload_n 0, 1) := by decide +kernel
theorem dX7_readNumber_86 : decode cX7_readNumber 86 = .ok (.iload_n 1, 1) := by decide +kernel
theorem dX7_readNumber_87 : decode cX7_readNumber 87 = .ok (.iconst 1, 1) := by decide +kernel
theorem dX7_readNumber_88 : decode cX7_readNumber 88 = .ok (.iadd, 1) := by decide +kernel
theorem dX7_readNumber_89 : decode cX7_readNumber 89 = .ok (.invokevirtual 62, 3) := by decide +kernel
theorem dX7_readNumber_92 : decode cX7_readNumber 92 = .ok (.bipush 45, 2) := by decide +kernel
theorem dX7_readNumber_94 : decode cX7_readNumber 94 = .ok (.if_icmp .ne 7, 3) := by decide +kernel
theorem dX7_readNumber_97 : decode cX7_readNumber 97 = .ok (.iconst 1, 1) := by decide +kernel
theorem dX7_readNumber_98 : decode cX7_readNumber 98 = .ok (.goto 4, 3) := by decide +kernel
theorem dX7_readNumber_101 : decode cX7_readNumber 101 = .ok (.iconst 0, 1) := by decide +kernel
theorem dX7_readNumber_102 : decode cX7_readNumber 102 = .ok (.istore 5, 2) := by decide +kernel
theorem dX7_readNumber_104 : decode cX7_readNumber 104 = .ok (.iload_n 1, 1) := by decide +kernel
theorem dX7_readNumber_105 : decode cX7_readNumber 105 = .ok (.iload 5, 2) := by decide +kernel
theorem dX7_readNumber_107 : decode cX7_readNumber 107 = .ok (.ifCond .eq 7, 3) := by decide +kernel
theorem dX7_readNumber_110 : decode cX7_readNumber 110 = .ok (.iconst 2, 1) := by decide +kernel
theorem dX7_readNumber_111 : decode cX7_readNumber 111 = .ok (.goto 4, 3) := by decide +kernel
theorem dX7_readNumber_114 : decode cX7_readNumber 114 = .ok (.iconst 1, 1) := by decide +kernel
theorem dX7_readNumber_115 : decode cX7_readNumber 115 = .ok (.iadd, 1) := by decide +kernel
theorem dX7_readNumber_116 : decode cX7_readNumber 116 = .ok (.istore 6, 2) := by decide +kernel
theorem dX7_readNumber_118 : decode cX7_readNumber 118 = .ok (.iload 6, 2) := by decide +kernel
theorem dX7_readNumber_120 : decode cX7_readNumber 120 = .ok (.istore_n 1, 1) := by decide +kernel
theorem dX7_readNumber_121 : decode cX7_readNumber 121 = .ok (.iload_n 1, 1) := by decide +kernel
theorem dX7_readNumber_122 : decode cX7_readNumber 122 = .ok (.aload_n 0, 1) := by decide +kernel
theorem dX7_readNumber_123 : decode cX7_readNumber 123 = .ok (.getfield 9, 3) := by decide +kernel
theorem dX7_readNumber_126 : decode cX7_readNumber 126 = .ok (.if_icmp .ge 42, 3) := by decide +kernel
theorem dX7_readNumber_129 : decode cX7_readNumber 129 = .ok (.aload_n 0, 1) := by decide +kernel
theorem dX7_readNumber_130 : decode cX7_readNumber 130 = .ok (.iload_n 1, 1) := by decide +kernel
theorem dX7_readNumber_131 : decode cX7_readNumber 131 = .ok (.invokevirtual 62, 3) := by decide +kernel
theorem dX7_readNumber_134 : decode cX7_readNumber 134 = .ok (.invokestatic 76, 3) := by decide +kernel
theorem dX7_readNumber_137 : decode cX7_readNumber 137 = .ok (.ifCond .eq 31, 3) := by decide +kernel
theorem dX7_readNumber_140 : decode cX7_readNumber 140 = .ok (.iload 4, 2) := by decide +kernel
theorem dX7_readNumber_142 : decode cX7_readNumber 142 = .ok (.bipush 10, 2) := by decide +kernel
theorem dX7_readNumber_144 : decode cX7_readNumber 144 = .ok (.imul, 1) := by decide +kernel
theorem dX7_readNumber_145 : decode cX7_readNumber 145 = .ok (.aload_n 0, 1) := by decide +kernel
theorem dX7_readNumber_146 : decode cX7_readNumber 146 = .ok (.iload_n 1, 1) := by decide +kernel
theorem dX7_readNumber_147 : decode cX7_readNumber 147 = .ok (.invokevirtual 62, 3) := by decide +kernel
theorem dX7_readNumber_150 : decode cX7_readNumber 150 = .ok (.iadd, 1) := by decide +kernel
theorem dX7_readNumber_151 : decode cX7_readNumber 151 = .ok (.bipush 48, 2) := by decide +kernel
theorem dX7_readNumber_153 : decode cX7_readNumber 153 = .ok (.isub, 1) := by decide +kernel
theorem dX7_readNumber_154 : decode cX7_readNumber 154 = .ok (.sipush 1101, 3) := by decide +kernel
theorem dX7_readNumber_157 : decode cX7_readNumber 157 = .ok (.invokestatic 53, 3) := by decide +kernel
theorem dX7_readNumber_160 : decode cX7_readNumber 160 = .ok (.istore 4, 2) := by decide +kernel
theorem dX7_readNumber_162 : decode cX7_readNumber 162 = .ok (.iinc 1 1, 3) := by decide +kernel
theorem dX7_readNumber_165 : decode cX7_readNumber 165 = .ok (.goto (-44), 3) := by decide +kernel
theorem dX7_readNumber_168 : decode cX7_readNumber 168 = .ok (.iload_n 1, 1) := by decide +kernel
theorem dX7_readNumber_169 : decode cX7_readNumber 169 = .ok (.iload 6, 2) := by decide +kernel
theorem dX7_readNumber_171 : decode cX7_readNumber 171 = .ok (.if_icmp .eq 11, 3) := by decide +kernel
theorem dX7_readNumber_174 : decode cX7_readNumber 174 = .ok (.iload 4, 2) := by decide +kernel
theorem dX7_readNumber_176 : decode cX7_readNumber 176 = .ok (.sipush 1100, 3) := by decide +kernel
theorem dX7_readNumber_179 : decode cX7_readNumber 179 = .ok (.if_icmp .le 4, 3) := by decide +kernel
theorem dX7_readNumber_182 : decode cX7_readNumber 182 = .ok (.return_, 1) := by decide +kernel
theorem dX7_readNumber_183 : decode cX7_readNumber 183 = .ok (.iload 5, 2) := by decide +kernel
theorem dX7_readNumber_185 : decode cX7_readNumber 185 = .ok (.ifCond .eq 9, 3) := by decide +kernel
theorem dX7_readNumber_188 : decode cX7_readNumber 188 = .ok (.iload 4, 2) := by decide +kernel
theorem dX7_readNumber_190 : decode cX7_readNumber 190 = .ok (.ineg, 1) := by decide +kernel
theorem dX7_readNumber_191 : decode cX7_readNumber 191 = .ok (.goto 5, 3) := by decide +kernel
theorem dX7_readNumber_194 : decode cX7_readNumber 194 = .ok (.iload 4, 2) := by decide +kernel
theorem dX7_readNumber_196 : decode cX7_readNumber 196 = .ok (.istore 4, 2) := by decide +kernel
theorem dX7_readNumber_198 : decode cX7_readNumber 198 = .ok (.aload_n 0, 1) := by decide +kernel
theorem dX7_readNumber_199 : decode cX7_readNumber 199 = .ok (.iload_n 1, 1) := by decide +kernel
theorem dX7_readNumber_200 : decode cX7_readNumber 200 = .ok (.invokevirtual 62, 3) := by decide +kernel
theorem dX7_readNumber_203 : decode cX7_readNumber 203 = .ok (.istore 5, 2) := by decide +kernel
theorem dX7_readNumber_205 : decode cX7_readNumber 205 = .ok (.iload 5, 2) := by decide +kernel
theorem dX7_readNumber_207 : decode cX7_readNumber 207 = .ok (.bipush 108, 2) := by decide +kernel
theorem dX7_readNumber_209 : decode cX7_readNumber 209 = .ok (.if_icmp .eq 10, 3) := by decide +kernel
theorem dX7_readNumber_212 : decode cX7_readNumber 212 = .ok (.iload 5, 2) := by decide +kernel
theorem dX7_readNumber_214 : decode cX7_readNumber 214 = .ok (.bipush 102, 2) := by decide +kernel
theorem dX7_readNumber_216 : decode cX7_readNumber 216 = .ok (.if_icmp .ne 6, 3) := by decide +kernel
theorem dX7_readNumber_219 : decode cX7_readNumber 219 = .ok (.iinc 1 1, 3) := by decide +kernel
theorem dX7_readNumber_222 : decode cX7_readNumber 222 = .ok (.aload_n 0, 1) := by decide +kernel
theorem dX7_readNumber_223 : decode cX7_readNumber 223 = .ok (.iload_n 1, 1) := by decide +kernel
theorem dX7_readNumber_224 : decode cX7_readNumber 224 = .ok (.invokevirtual 62, 3) := by decide +kernel
theorem dX7_readNumber_227 : decode cX7_readNumber 227 = .ok (.istore 6, 2) := by decide +kernel
theorem dX7_readNumber_229 : decode cX7_readNumber 229 = .ok (.iload 6, 2) := by decide +kernel
theorem dX7_readNumber_231 : decode cX7_readNumber 231 = .ok (.invokestatic 70, 3) := by decide +kernel
theorem dX7_readNumber_234 : decode cX7_readNumber 234 = .ok (.ifCond .ne 18, 3) := by decide +kernel
theorem dX7_readNumber_237 : decode cX7_readNumber 237 = .ok (.iload 6, 2) := by decide +kernel
theorem dX7_readNumber_239 : decode cX7_readNumber 239 = .ok (.invokestatic 76, 3) := by decide +kernel
theorem dX7_readNumber_242 : decode cX7_readNumber 242 = .ok (.ifCond .ne 10, 3) := by decide +kernel
theorem dX7_readNumber_245 : decode cX7_readNumber 245 = .ok (.iload 6, 2) := by decide +kernel
theorem dX7_readNumber_247 : decode cX7_readNumber 247 = .ok (.bipush 46, 2) := by decide +kernel
theorem dX7_readNumber_249 : decode cX7_readNumber 249 = .ok (.if_icmp .ne 4, 3) := by decide +kernel
theorem dX7_readNumber_252 : decode cX7_readNumber 252 = .ok (.return_, 1) := by decide +kernel
theorem dX7_readNumber_253 : decode cX7_readNumber 253 = .ok (.aload_n 0, 1) := by decide +kernel
theorem dX7_readNumber_254 : decode cX7_readNumber 254 = .ok (.iload_n 1, 1) := by decide +kernel
theorem dX7_readNumber_255 : decode cX7_readNumber 255 = .ok (.putfield 15, 3) := by decide +kernel
theorem dX7_readNumber_258 : decode cX7_readNumber 258 = .ok (.iload 5, 2) := by decide +kernel
theorem dX7_readNumber_260 : decode cX7_readNumber 260 = .ok (.bipush 102, 2) := by decide +kernel
theorem dX7_readNumber_262 : decode cX7_readNumber 262 = .ok (.if_icmp .eq 11, 3) := by decide +kernel
theorem dX7_readNumber_265 : decode cX7_readNumber 265 = .ok (.iload_n 2, 1) := by decide +kernel
theorem dX7_readNumber_266 : decode cX7_readNumber 266 = .ok (.ifCond .gt 7, 3) := by decide +kernel
theorem dX7_readNumber_269 : decode cX7_readNumber 269 = .ok (.iload_n 3, 1) := by decide +kernel
theorem dX7_readNumber_270 : decode cX7_readNumber 270 = .ok (.ifCond .eq 15, 3) := by decide +kernel
theorem dX7_readNumber_273 : decode cX7_readNumber 273 = .ok (.aload_n 0, 1) := by decide +kernel
theorem dX7_readNumber_274 : decode cX7_readNumber 274 = .ok (.iload 5, 2) := by decide +kernel
theorem dX7_readNumber_276 : decode cX7_readNumber 276 = .ok (.iload_n 2, 1) := by decide +kernel
theorem dX7_readNumber_277 : decode cX7_readNumber 277 = .ok (.iload 4, 2) := by decide +kernel
theorem dX7_readNumber_279 : decode cX7_readNumber 279 = .ok (.invokevirtual 109, 3) := by decide +kernel
theorem dX7_readNumber_282 : decode cX7_readNumber 282 = .ok (.goto 9, 3) := by decide +kernel
theorem dX7_readNumber_285 : decode cX7_readNumber 285 = .ok (.aload_n 0, 1) := by decide +kernel
theorem dX7_readNumber_286 : decode cX7_readNumber 286 = .ok (.iload 5, 2) := by decide +kernel
theorem dX7_readNumber_288 : decode cX7_readNumber 288 = .ok (.invokevirtual 113, 3) := by decide +kernel
theorem dX7_readNumber_291 : decode cX7_readNumber 291 = .ok (.return_, 1) := by decide +kernel
abbrev R_X7_readNumber : Room := ({ frames := 2, cells := 0, slots := 0, locals := 64 } : Room)
def b_X7_readNumber_273 (n : Nat) (rec : (Gs → Gs → Gs → Int32 → Int32 → Int32 → Int32 → Int32 → Int32 → Option (Gs))) (gT : Gs) (gT_0 : Gs) (gT_1 : Gs) (v2 : Int32) (v4 : Int32) (v5 : Int32) : Option (Gs) :=
  bnd (f_X7_settleReal n gT gT_0 gT_1 v5 v2 v4) (fun q_15 => some q_15)
def b_X7_readNumber_222 (n : Nat) (rec : (Gs → Gs → Gs → Int32 → Int32 → Int32 → Int32 → Int32 → Int32 → Option (Gs))) (gT : Gs) (gT_0 : Gs) (gT_1 : Gs) (v1 : Int32) (v2 : Int32) (v3 : Int32) (v4 : Int32) (v5 : Int32) : Option (Gs) :=
  bnd (f_X7_byteAt gT gT_0 v1) (fun q_9 => bnd (f_X7_isLetter q_9) (fun q_11 => if q_11 = 0 then (bnd (f_X7_isDigit q_9) (fun q_13 => if q_13 = 0 then (if q_9 = (46 : Int32) then (some gT) else (if v5 = (102 : Int32) then (b_X7_readNumber_273 n rec (sI gT 3 v1) gT_0 gT_1 v2 v4 v5) else (if 0 < v2 then (b_X7_readNumber_273 n rec (sI gT 3 v1) gT_0 gT_1 v2 v4 v5) else (if v3 = 0 then (bnd (f_X7_settleWhole (sI gT 3 v1) v5) (fun q_17 => some q_17)) else (b_X7_readNumber_273 n rec (sI gT 3 v1) gT_0 gT_1 v2 v4 v5))))) else (some gT))) else (some gT)))
def b_X7_readNumber_219 (n : Nat) (rec : (Gs → Gs → Gs → Int32 → Int32 → Int32 → Int32 → Int32 → Int32 → Option (Gs))) (gT : Gs) (gT_0 : Gs) (gT_1 : Gs) (v1 : Int32) (v2 : Int32) (v3 : Int32) (v4 : Int32) (v5 : Int32) : Option (Gs) :=
  b_X7_readNumber_222 n rec gT gT_0 gT_1 (v1 + (1 : Int32)) v2 v3 v4 v5
def b_X7_readNumber_198 (n : Nat) (rec : (Gs → Gs → Gs → Int32 → Int32 → Int32 → Int32 → Int32 → Int32 → Option (Gs))) (gT : Gs) (gT_0 : Gs) (gT_1 : Gs) (v1 : Int32) (v2 : Int32) (v3 : Int32) (v4 : Int32) : Option (Gs) :=
  bnd (f_X7_byteAt gT gT_0 v1) (fun q_7 => if q_7 = (108 : Int32) then (b_X7_readNumber_219 n rec gT gT_0 gT_1 v1 v2 v3 v4 q_7) else (if q_7 = (102 : Int32) then (b_X7_readNumber_219 n rec gT gT_0 gT_1 v1 v2 v3 v4 q_7) else (b_X7_readNumber_222 n rec gT gT_0 gT_1 v1 v2 v3 v4 q_7)))
def b_X7_readNumber_196 (n : Nat) (rec : (Gs → Gs → Gs → Int32 → Int32 → Int32 → Int32 → Int32 → Int32 → Option (Gs))) (gT : Gs) (gT_0 : Gs) (gT_1 : Gs) (v1 : Int32) (v2 : Int32) (v3 : Int32) (s0 : Int32) : Option (Gs) :=
  b_X7_readNumber_198 n rec gT gT_0 gT_1 v1 v2 v3 s0
def b_X7_readNumber_168 (n : Nat) (rec : (Gs → Gs → Gs → Int32 → Int32 → Int32 → Int32 → Int32 → Int32 → Option (Gs))) (gT : Gs) (gT_0 : Gs) (gT_1 : Gs) (v1 : Int32) (v2 : Int32) (v3 : Int32) (v4 : Int32) (v5 : Int32) (v6 : Int32) : Option (Gs) :=
  if v1 = v6 then (some gT) else (if v4 ≤ (1100 : Int32) then (if v5 = 0 then (b_X7_readNumber_196 n rec gT gT_0 gT_1 v1 v2 v3 v4) else (b_X7_readNumber_196 n rec gT gT_0 gT_1 v1 v2 v3 (-v4))) else (some gT))
def h_X7_readNumber_121 (n : Nat) (rec : (Gs → Gs → Gs → Int32 → Int32 → Int32 → Int32 → Int32 → Int32 → Option (Gs))) (gT : Gs) (gT_0 : Gs) (gT_1 : Gs) (v1 : Int32) (v2 : Int32) (v3 : Int32) (v4 : Int32) (v5 : Int32) (v6 : Int32) : Option (Gs) :=
  if (gI gT 2) ≤ v1 then (b_X7_readNumber_168 n rec gT gT_0 gT_1 v1 v2 v3 v4 v5 v6) else (bnd (f_X7_byteAt gT gT_0 v1) (fun q_21 => bnd (f_X7_isDigit q_21) (fun q_23 => if q_23 = 0 then (b_X7_readNumber_168 n rec gT gT_0 gT_1 v1 v2 v3 v4 v5 v6) else (bnd (f_X7_byteAt gT gT_0 v1) (fun q_25 => rec gT gT_0 gT_1 (v1 + (1 : Int32)) v2 v3 (if (1101 : Int32) < (((v4 * (10 : Int32)) + q_25) - (48 : Int32)) then (1101 : Int32) else (((v4 * (10 : Int32)) + q_25) - (48 : Int32))) v5 v6)))))
def b_X7_readNumber_115 (n : Nat) (rec : (Gs → Gs → Gs → Int32 → Int32 → Int32 → Int32 → Int32 → Int32 → Option (Gs))) (gT : Gs) (gT_0 : Gs) (gT_1 : Gs) (v2 : Int32) (v3 : Int32) (v4 : Int32) (v5 : Int32) (s0 : Int32) (s1 : Int32) : Option (Gs) :=
  rec gT gT_0 gT_1 (s1 + s0) v2 v3 v4 v5 (s1 + s0)
def b_X7_readNumber_102 (n : Nat) (rec : (Gs → Gs → Gs → Int32 → Int32 → Int32 → Int32 → Int32 → Int32 → Option (Gs))) (gT : Gs) (gT_0 : Gs) (gT_1 : Gs) (v1 : Int32) (v2 : Int32) (v3 : Int32) (v4 : Int32) (s0 : Int32) : Option (Gs) :=
  if s0 = 0 then (b_X7_readNumber_115 n rec gT gT_0 gT_1 v2 v3 v4 s0 (1 : Int32) v1) else (b_X7_readNumber_115 n rec gT gT_0 gT_1 v2 v3 v4 s0 (2 : Int32) v1)
def b_X7_readNumber_77 (n : Nat) (rec : (Gs → Gs → Gs → Int32 → Int32 → Int32 → Int32 → Int32 → Int32 → Option (Gs))) (gT : Gs) (gT_0 : Gs) (gT_1 : Gs) (v1 : Int32) (v2 : Int32) (s0 : Int32) : Option (Gs) :=
  if s0 = 0 then (b_X7_readNumber_198 n rec gT gT_0 gT_1 v1 v2 s0 (0 : Int32)) else (bnd (f_X7_byteAt gT gT_0 (v1 + (1 : Int32))) (fun q_19 => if q_19 = (45 : Int32) then (b_X7_readNumber_102 n rec gT gT_0 gT_1 v1 v2 s0 (0 : Int32) (1 : Int32)) else (b_X7_readNumber_102 n rec gT gT_0 gT_1 v1 v2 s0 (0 : Int32) (0 : Int32))))
def b_X7_readNumber_62 (n : Nat) (rec : (Gs → Gs → Gs → Int32 → Int32 → Int32 → Int32 → Int32 → Int32 → Option (Gs))) (gT : Gs) (gT_0 : Gs) (gT_1 : Gs) (v1 : Int32) (v2 : Int32) : Option (Gs) :=
  bnd (f_X7_byteAt gT gT_0 v1) (fun q_5 => if q_5 = (112 : Int32) then (b_X7_readNumber_77 n rec gT gT_0 gT_1 v1 v2 (1 : Int32)) else (b_X7_readNumber_77 n rec gT gT_0 gT_1 v1 v2 (0 : Int32)))
def L_X7_readNumber (n : Nat) : Nat → (Gs → Gs → Gs → Int32 → Int32 → Int32 → Int32 → Int32 → Int32 → Option (Gs))
  | 0 => ((fun _ _ _ _ _ _ _ _ _ => none))
  | k + 1 => (h_X7_readNumber_121 n (L_X7_readNumber n k))
def f_X7_readNumber (n : Nat) (gT : Gs) (gT_0 : Gs) (gT_1 : Gs) : Option (Gs) :=
  bnd (f_X7_readDigits n (sI (sI (sL (sI gT 4 (1 : Int32)) 8 (0 : Int64)) 10 (0 : Int32)) 11 (0 : Int32)) gT_0 (gI gT 3)) (fun q_1 => bnd (f_X7_byteAt q_1.2 gT_0 q_1.1) (fun q_3 => if q_3 = (46 : Int32) then (bnd (f_X7_readDigits n q_1.2 gT_0 (q_1.1 + (1 : Int32))) (fun q_27 => if ((q_27.1 - q_1.1) - (1 : Int32)) = 0 then (some q_27.2) else (b_X7_readNumber_62 n (L_X7_readNumber n n) q_27.2 gT_0 gT_1 q_27.1 ((q_27.1 - q_1.1) - (1 : Int32))))) else (b_X7_readNumber_62 n (L_X7_readNumber n n) q_1.2 gT_0 gT_1 q_1.1 (0 : Int32))))
def S_X7_readNumber_273 (l : Launch) (D : Dx) (hT : Nat) (aT : Nat → Nat) (yT : Nat → ClassId) (aT_0 : Nat → Nat) (yT_0 : Nat → ClassId) (aT_1 : Nat → Nat) (yT_1 : Nat → ClassId) (fn : Gs → Gs → Gs → Int32 → Int32 → Int32 → Option (Gs)) : Prop :=
  ∀ {p : Program} {e : Env} {s : State} {m : MethodId} {args : Array Value} {below : List Frame} {meth : Method} {c : Code} {H : Heap} {locs : List Loc} {A : Nat → Prop} {ls : Array Slot} {gT : Gs} {gT_0 : Gs} {gT_1 : Gs} {v2 : Int32} {v4 : Int32} {v5 : Int32} {q : Gs}, Cx p s m args meth c cX7_readNumber none 7 RX7 lw_all → Hx D (tX7 yT ++ (tTP yT_0 ++ (tX6 yT_1))) A s H locs (wX7 hT aT yT gT ++ (wTP (aT 0) aT_0 yT_0 gT_0 ++ (wX6 (aT 1) aT_1 yT_1 gT_1))) → lv_has ls 7 [(0, .ref hT), (2, .int v2), (4, .int v4), (5, .int v5)] → fn gT gT_0 gT_1 v2 v4 v5 = some q → W p l e R_X7_readNumber s m args below meth c H locs 0 0 (MQ below (QV D A (wX7 hT aT yT q ++ (wTP (aT 0) aT_0 yT_0 gT_0 ++ (wX6 (aT 1) aT_1 yT_1 gT_1)))) args s 0 0 A) (F0 m 273 ls [])
def S_X7_readNumber_222 (l : Launch) (D : Dx) (hT : Nat) (aT : Nat → Nat) (yT : Nat → ClassId) (aT_0 : Nat → Nat) (yT_0 : Nat → ClassId) (aT_1 : Nat → Nat) (yT_1 : Nat → ClassId) (fn : Gs → Gs → Gs → Int32 → Int32 → Int32 → Int32 → Int32 → Option (Gs)) : Prop :=
  ∀ {p : Program} {e : Env} {s : State} {m : MethodId} {args : Array Value} {below : List Frame} {meth : Method} {c : Code} {H : Heap} {locs : List Loc} {A : Nat → Prop} {ls : Array Slot} {gT : Gs} {gT_0 : Gs} {gT_1 : Gs} {v1 : Int32} {v2 : Int32} {v3 : Int32} {v4 : Int32} {v5 : Int32} {q : Gs}, Cx p s m args meth c cX7_readNumber none 7 RX7 lw_all → Hx D (tX7 yT ++ (tTP yT_0 ++ (tX6 yT_1))) A s H locs (wX7 hT aT yT gT ++ (wTP (aT 0) aT_0 yT_0 gT_0 ++ (wX6 (aT 1) aT_1 yT_1 gT_1))) → lv_has ls 7 [(0, .ref hT), (1, .int v1), (2, .int v2), (3, .int v3), (4, .int v4), (5, .int v5)] → fn gT gT_0 gT_1 v1 v2 v3 v4 v5 = some q → W p l e R_X7_readNumber s m args below meth c H locs 0 0 (MQ below (QV D A (wX7 hT aT yT q ++ (wTP (aT 0) aT_0 yT_0 gT_0 ++ (wX6 (aT 1) aT_1 yT_1 gT_1)))) args s 0 0 A) (F0 m 222 ls [])
def S_X7_readNumber_219 (l : Launch) (D : Dx) (hT : Nat) (aT : Nat → Nat) (yT : Nat → ClassId) (aT_0 : Nat → Nat) (yT_0 : Nat → ClassId) (aT_1 : Nat → Nat) (yT_1 : Nat → ClassId) (fn : Gs → Gs → Gs → Int32 → Int32 → Int32 → Int32 → Int32 → Option (Gs)) : Prop :=
  ∀ {p : Program} {e : Env} {s : State} {m : MethodId} {args : Array Value} {below : List Frame} {meth : Method} {c : Code} {H : Heap} {locs : List Loc} {A : Nat → Prop} {ls : Array Slot} {gT : Gs} {gT_0 : Gs} {gT_1 : Gs} {v1 : Int32} {v2 : Int32} {v3 : Int32} {v4 : Int32} {v5 : Int32} {q : Gs}, Cx p s m args meth c cX7_readNumber none 7 RX7 lw_all → Hx D (tX7 yT ++ (tTP yT_0 ++ (tX6 yT_1))) A s H locs (wX7 hT aT yT gT ++ (wTP (aT 0) aT_0 yT_0 gT_0 ++ (wX6 (aT 1) aT_1 yT_1 gT_1))) → lv_has ls 7 [(0, .ref hT), (1, .int v1), (2, .int v2), (3, .int v3), (4, .int v4), (5, .int v5)] → fn gT gT_0 gT_1 v1 v2 v3 v4 v5 = some q → W p l e R_X7_readNumber s m args below meth c H locs 0 0 (MQ below (QV D A (wX7 hT aT yT q ++ (wTP (aT 0) aT_0 yT_0 gT_0 ++ (wX6 (aT 1) aT_1 yT_1 gT_1)))) args s 0 0 A) (F0 m 219 ls [])
def S_X7_readNumber_198 (l : Launch) (D : Dx) (hT : Nat) (aT : Nat → Nat) (yT : Nat → ClassId) (aT_0 : Nat → Nat) (yT_0 : Nat → ClassId) (aT_1 : Nat → Nat) (yT_1 : Nat → ClassId) (fn : Gs → Gs → Gs → Int32 → Int32 → Int32 → Int32 → Option (Gs)) : Prop :=
  ∀ {p : Program} {e : Env} {s : State} {m : MethodId} {args : Array Value} {below : List Frame} {meth : Method} {c : Code} {H : Heap} {locs : List Loc} {A : Nat → Prop} {ls : Array Slot} {gT : Gs} {gT_0 : Gs} {gT_1 : Gs} {v1 : Int32} {v2 : Int32} {v3 : Int32} {v4 : Int32} {q : Gs}, Cx p s m args meth c cX7_readNumber none 7 RX7 lw_all → Hx D (tX7 yT ++ (tTP yT_0 ++ (tX6 yT_1))) A s H locs (wX7 hT aT yT gT ++ (wTP (aT 0) aT_0 yT_0 gT_0 ++ (wX6 (aT 1) aT_1 yT_1 gT_1))) → lv_has ls 7 [(0, .ref hT), (1, .int v1), (2, .int v2), (3, .int v3), (4, .int v4)] → fn gT gT_0 gT_1 v1 v2 v3 v4 = some q → W p l e R_X7_readNumber s m args below meth c H locs 0 0 (MQ below (QV D A (wX7 hT aT yT q ++ (wTP (aT 0) aT_0 yT_0 gT_0 ++ (wX6 (aT 1) aT_1 yT_1 gT_1)))) args s 0 0 A) (F0 m 198 ls [])
def S_X7_readNumber_196 (l : Launch) (D : Dx) (hT : Nat) (aT : Nat → Nat) (yT : Nat → ClassId) (aT_0 : Nat → Nat) (yT_0 : Nat → ClassId) (aT_1 : Nat → Nat) (yT_1 : Nat → ClassId) (fn : Gs → Gs → Gs → Int32 → Int32 → Int32 → Int32 → Option (Gs)) : Prop :=
  ∀ {p : Program} {e : Env} {s : State} {m : MethodId} {args : Array Value} {below : List Frame} {meth : Method} {c : Code} {H : Heap} {locs : List Loc} {A : Nat → Prop} {ls : Array Slot} {gT : Gs} {gT_0 : Gs} {gT_1 : Gs} {v1 : Int32} {v2 : Int32} {v3 : Int32} {s0 : Int32} {q : Gs}, Cx p s m args meth c cX7_readNumber none 7 RX7 lw_all → Hx D (tX7 yT ++ (tTP yT_0 ++ (tX6 yT_1))) A s H locs (wX7 hT aT yT gT ++ (wTP (aT 0) aT_0 yT_0 gT_0 ++ (wX6 (aT 1) aT_1 yT_1 gT_1))) → lv_has ls 7 [(0, .ref hT), (1, .int v1), (2, .int v2), (3, .int v3)] → fn gT gT_0 gT_1 v1 v2 v3 s0 = some q → W p l e R_X7_readNumber s m args below meth c H locs 0 0 (MQ below (QV D A (wX7 hT aT yT q ++ (wTP (aT 0) aT_0 yT_0 gT_0 ++ (wX6 (aT 1) aT_1 yT_1 gT_1)))) args s 0 0 A) (F0 m 196 ls [.int s0])
def S_X7_readNumber_168 (l : Launch) (D : Dx) (hT : Nat) (aT : Nat → Nat) (yT : Nat → ClassId) (aT_0 : Nat → Nat) (yT_0 : Nat → ClassId) (aT_1 : Nat → Nat) (yT_1 : Nat → ClassId) (fn : Gs → Gs → Gs → Int32 → Int32 → Int32 → Int32 → Int32 → Int32 → Option (Gs)) : Prop :=
  ∀ {p : Program} {e : Env} {s : State} {m : MethodId} {args : Array Value} {below : List Frame} {meth : Method} {c : Code} {H : Heap} {locs : List Loc} {A : Nat → Prop} {ls : Array Slot} {gT : Gs} {gT_0 : Gs} {gT_1 : Gs} {v1 : Int32} {v2 : Int32} {v3 : Int32} {v4 : Int32} {v5 : Int32} {v6 : Int32} {q : Gs}, Cx p s m args meth c cX7_readNumber none 7 RX7 lw_all → Hx D (tX7 yT ++ (tTP yT_0 ++ (tX6 yT_1))) A s H locs (wX7 hT aT yT gT ++ (wTP (aT 0) aT_0 yT_0 gT_0 ++ (wX6 (aT 1) aT_1 yT_1 gT_1))) → lv_has ls 7 [(0, .ref hT), (1, .int v1), (2, .int v2), (3, .int v3), (4, .int v4), (5, .int v5), (6, .int v6)] → fn gT gT_0 gT_1 v1 v2 v3 v4 v5 v6 = some q → W p l e R_X7_readNumber s m args below meth c H locs 0 0 (MQ below (QV D A (wX7 hT aT yT q ++ (wTP (aT 0) aT_0 yT_0 gT_0 ++ (wX6 (aT 1) aT_1 yT_1 gT_1)))) args s 0 0 A) (F0 m 168 ls [])
def S_X7_readNumber_121 (l : Launch) (D : Dx) (hT : Nat) (aT : Nat → Nat) (yT : Nat → ClassId) (aT_0 : Nat → Nat) (yT_0 : Nat → ClassId) (aT_1 : Nat → Nat) (yT_1 : Nat → ClassId) (fn : Gs → Gs → Gs → Int32 → Int32 → Int32 → Int32 → Int32 → Int32 → Option (Gs)) : Prop :=
  ∀ {p : Program} {e : Env} {s : State} {m : MethodId} {args : Array Value} {below : List Frame} {meth : Method} {c : Code} {H : Heap} {locs : List Loc} {A : Nat → Prop} {ls : Array Slot} {gT : Gs} {gT_0 : Gs} {gT_1 : Gs} {v1 : Int32} {v2 : Int32} {v3 : Int32} {v4 : Int32} {v5 : Int32} {v6 : Int32} {q : Gs}, Cx p s m args meth c cX7_readNumber none 7 RX7 lw_all → Hx D (tX7 yT ++ (tTP yT_0 ++ (tX6 yT_1))) A s H locs (wX7 hT aT yT gT ++ (wTP (aT 0) aT_0 yT_0 gT_0 ++ (wX6 (aT 1) aT_1 yT_1 gT_1))) → lv_has ls 7 [(0, .ref hT), (1, .int v1), (2, .int v2), (3, .int v3), (4, .int v4), (5, .int v5), (6, .int v6)] → fn gT gT_0 gT_1 v1 v2 v3 v4 v5 v6 = some q → W p l e R_X7_readNumber s m args below meth c H locs 0 0 (MQ below (QV D A (wX7 hT aT yT q ++ (wTP (aT 0) aT_0 yT_0 gT_0 ++ (wX6 (aT 1) aT_1 yT_1 gT_1)))) args s 0 0 A) (F0 m 121 ls [])
def S_X7_readNumber_115 (l : Launch) (D : Dx) (hT : Nat) (aT : Nat → Nat) (yT : Nat → ClassId) (aT_0 : Nat → Nat) (yT_0 : Nat → ClassId) (aT_1 : Nat → Nat) (yT_1 : Nat → ClassId) (fn : Gs → Gs → Gs → Int32 → Int32 → Int32 → Int32 → Int32 → Int32 → Option (Gs)) : Prop :=
  ∀ {p : Program} {e : Env} {s : State} {m : MethodId} {args : Array Value} {below : List Frame} {meth : Method} {c : Code} {H : Heap} {locs : List Loc} {A : Nat → Prop} {ls : Array Slot} {gT : Gs} {gT_0 : Gs} {gT_1 : Gs} {v2 : Int32} {v3 : Int32} {v4 : Int32} {v5 : Int32} {s0 : Int32} {s1 : Int32} {q : Gs}, Cx p s m args meth c cX7_readNumber none 7 RX7 lw_all → Hx D (tX7 yT ++ (tTP yT_0 ++ (tX6 yT_1))) A s H locs (wX7 hT aT yT gT ++ (wTP (aT 0) aT_0 yT_0 gT_0 ++ (wX6 (aT 1) aT_1 yT_1 gT_1))) → lv_has ls 7 [(0, .ref hT), (2, .int v2), (3, .int v3), (4, .int v4), (5, .int v5)] → fn gT gT_0 gT_1 v2 v3 v4 v5 s0 s1 = some q → W p l e R_X7_readNumber s m args below meth c H locs 0 0 (MQ below (QV D A (wX7 hT aT yT q ++ (wTP (aT 0) aT_0 yT_0 gT_0 ++ (wX6 (aT 1) aT_1 yT_1 gT_1)))) args s 0 0 A) (F0 m 115 ls [.int s0, .int s1])
def S_X7_readNumber_102 (l : Launch) (D : Dx) (hT : Nat) (aT : Nat → Nat) (yT : Nat → ClassId) (aT_0 : Nat → Nat) (yT_0 : Nat → ClassId) (aT_1 : Nat → Nat) (yT_1 : Nat → ClassId) (fn : Gs → Gs → Gs → Int32 → Int32 → Int32 → Int32 → Int32 → Option (Gs)) : Prop :=
  ∀ {p : Program} {e : Env} {s : State} {m : MethodId} {args : Array Value} {below : List Frame} {meth : Method} {c : Code} {H : Heap} {locs : List Loc} {A : Nat → Prop} {ls : Array Slot} {gT : Gs} {gT_0 : Gs} {gT_1 : Gs} {v1 : Int32} {v2 : Int32} {v3 : Int32} {v4 : Int32} {s0 : Int32} {q : Gs}, Cx p s m args meth c cX7_readNumber none 7 RX7 lw_all → Hx D (tX7 yT ++ (tTP yT_0 ++ (tX6 yT_1))) A s H locs (wX7 hT aT yT gT ++ (wTP (aT 0) aT_0 yT_0 gT_0 ++ (wX6 (aT 1) aT_1 yT_1 gT_1))) → lv_has ls 7 [(0, .ref hT), (1, .int v1), (2, .int v2), (3, .int v3), (4, .int v4)] → fn gT gT_0 gT_1 v1 v2 v3 v4 s0 = some q → W p l e R_X7_readNumber s m args below meth c H locs 0 0 (MQ below (QV D A (wX7 hT aT yT q ++ (wTP (aT 0) aT_0 yT_0 gT_0 ++ (wX6 (aT 1) aT_1 yT_1 gT_1)))) args s 0 0 A) (F0 m 102 ls [.int s0])
def S_X7_readNumber_77 (l : Launch) (D : Dx) (hT : Nat) (aT : Nat → Nat) (yT : Nat → ClassId) (aT_0 : Nat → Nat) (yT_0 : Nat → ClassId) (aT_1 : Nat → Nat) (yT_1 : Nat → ClassId) (fn : Gs → Gs → Gs → Int32 → Int32 → Int32 → Option (Gs)) : Prop :=
  ∀ {p : Program} {e : Env} {s : State} {m : MethodId} {args : Array Value} {below : List Frame} {meth : Method} {c : Code} {H : Heap} {locs : List Loc} {A : Nat → Prop} {ls : Array Slot} {gT : Gs} {gT_0 : Gs} {gT_1 : Gs} {v1 : Int32} {v2 : Int32} {s0 : Int32} {q : Gs}, Cx p s m args meth c cX7_readNumber none 7 RX7 lw_all → Hx D (tX7 yT ++ (tTP yT_0 ++ (tX6 yT_1))) A s H locs (wX7 hT aT yT gT ++ (wTP (aT 0) aT_0 yT_0 gT_0 ++ (wX6 (aT 1) aT_1 yT_1 gT_1))) → lv_has ls 7 [(0, .ref hT), (1, .int v1), (2, .int v2)] → fn gT gT_0 gT_1 v1 v2 s0 = some q → W p l e R_X7_readNumber s m args below meth c H locs 0 0 (MQ below (QV D A (wX7 hT aT yT q ++ (wTP (aT 0) aT_0 yT_0 gT_0 ++ (wX6 (aT 1) aT_1 yT_1 gT_1)))) args s 0 0 A) (F0 m 77 ls [.int s0])
def S_X7_readNumber_62 (l : Launch) (D : Dx) (hT : Nat) (aT : Nat → Nat) (yT : Nat → ClassId) (aT_0 : Nat → Nat) (yT_0 : Nat → ClassId) (aT_1 : Nat → Nat) (yT_1 : Nat → ClassId) (fn : Gs → Gs → Gs → Int32 → Int32 → Option (Gs)) : Prop :=
  ∀ {p : Program} {e : Env} {s : State} {m : MethodId} {args : Array Value} {below : List Frame} {meth : Method} {c : Code} {H : Heap} {locs : List Loc} {A : Nat → Prop} {ls : Array Slot} {gT : Gs} {gT_0 : Gs} {gT_1 : Gs} {v1 : Int32} {v2 : Int32} {q : Gs}, Cx p s m args meth c cX7_readNumber none 7 RX7 lw_all → Hx D (tX7 yT ++ (tTP yT_0 ++ (tX6 yT_1))) A s H locs (wX7 hT aT yT gT ++ (wTP (aT 0) aT_0 yT_0 gT_0 ++ (wX6 (aT 1) aT_1 yT_1 gT_1))) → lv_has ls 7 [(0, .ref hT), (1, .int v1), (2, .int v2)] → fn gT gT_0 gT_1 v1 v2 = some q → W p l e R_X7_readNumber s m args below meth c H locs 0 0 (MQ below (QV D A (wX7 hT aT yT q ++ (wTP (aT 0) aT_0 yT_0 gT_0 ++ (wX6 (aT 1) aT_1 yT_1 gT_1)))) args s 0 0 A) (F0 m 62 ls [])
def SH_X7_readNumber (l : Launch) (D : Dx) (hT : Nat) (aT : Nat → Nat) (yT : Nat → ClassId) (aT_0 : Nat → Nat) (yT_0 : Nat → ClassId) (aT_1 : Nat → Nat) (yT_1 : Nat → ClassId) (rec : (Gs → Gs → Gs → Int32 → Int32 → Int32 → Int32 → Int32 → Int32 → Option (Gs))) : Prop := S_X7_readNumber_121 l D hT aT yT aT_0 yT_0 aT_1 yT_1 rec
set_option maxHeartbeats 4000000 in
set_option maxRecDepth 100000 in
theorem k_X7_readNumber_273 (l : Launch) (D : Dx) (hT : Nat) (aT : Nat → Nat) (yT : Nat → ClassId) (aT_0 : Nat → Nat) (yT_0 : Nat → ClassId) (aT_1 : Nat → Nat) (yT_1 : Nat → ClassId) (n : Nat) (rec : (Gs → Gs → Gs → Int32 → Int32 → Int32 → Int32 → Int32 → Int32 → Option (Gs))) (IH : SH_X7_readNumber l D hT aT yT aT_0 yT_0 aT_1 yT_1 rec) : S_X7_readNumber_273 l D hT aT yT aT_0 yT_0 aT_1 yT_1 (b_X7_readNumber_273 n rec) := by
  intro p e s m args below meth c H locs A ls gT gT_0 gT_1 v2 v4 v5 q C X hl hF
  obtain ⟨hx, hb, hr, hml, hown, hts, hlk⟩ := id C
  unfold b_X7_readNumber_273 at hF
  refine lv_aload_n hx hb dX7_readNumber_273 rfl (lv_at hl 0 rfl) ?_
  refine lv_iload hx hb dX7_readNumber_274 (lv_at hl 3 rfl) ?_
  refine lv_iload_n hx hb dX7_readNumber_276 rfl (lv_at hl 1 rfl) ?_
  refine lv_iload hx hb dX7_readNumber_277 (lv_at hl 2 rfl) ?_
  obtain ⟨q_15, hc_16, hF⟩ := bnd_some hF
  refine cV_v (As := [.int v5, .int v2, .int v4]) (rest := []) C X (c_X7_settleReal l D hT aT yT aT_0 yT_0 aT_1 yT_1 n gT gT_0 gT_1 v5 v2 v4 q_15 hc_16 _) (cwV 3 hts (good_V q3_206 q3_208 q0_8 q1_12 q3_209) rfl rfl rfl (by decide +kernel) ⟨Nat.le_of_ble_eq_true rfl, Nat.le_of_ble_eq_true rfl⟩) (va_recv X.1 X.2.1 (ci := 7) (q0 := 0) rfl rfl) X.1 X.2.1 X.2.2.1 (free_all X) hl.1 rfl rfl (Nat.le_of_ble_eq_true rfl) dX7_readNumber_279 ⟨Nat.le_of_ble_eq_true rfl, Nat.le_of_ble_eq_true rfl⟩ (fun t H1 locs1 ht hB hk hS => ?_)
  have X : Hx D (tX7 yT ++ (tTP yT_0 ++ (tX6 yT_1))) A s H1 locs1 (wX7 hT aT yT q_15 ++ (wTP (aT 0) aT_0 yT_0 gT_0 ++ (wX6 (aT 1) aT_1 yT_1 gT_1))) := Hx_after_all X ht hB hS
  clear hk hS ht hB
  generalize H1 = H at X ⊢
  generalize locs1 = locs at X ⊢
  refine lv_goto (tgt := 291) hx hb dX7_readNumber_282 (by decide) ?_
  have hq := Option.some.inj hF
  subst hq
  exact rt_v C X dX7_readNumber_291
set_option maxHeartbeats 4000000 in
set_option maxRecDepth 100000 in
theorem k_X7_readNumber_222 (l : Launch) (D : Dx) (hT : Nat) (aT : Nat → Nat) (yT : Nat → ClassId) (aT_0 : Nat → Nat) (yT_0 : Nat → ClassId) (aT_1 : Nat → Nat) (yT_1 : Nat → ClassId) (n : Nat) (rec : (Gs → Gs → Gs → Int32 → Int32 → Int32 → Int32 → Int32 → Int32 → Option (Gs))) (IH : SH_X7_readNumber l D hT aT yT aT_0 yT_0 aT_1 yT_1 rec) : S_X7_readNumber_222 l D hT aT yT aT_0 yT_0 aT_1 yT_1 (b_X7_readNumber_222 n rec) := by
  intro p e s m args below meth c H locs A ls gT gT_0 gT_1 v1 v2 v3 v4 v5 q C X hl hF
  obtain ⟨hx, hb, hr, hml, hown, hts, hlk⟩ := id C
  unfold b_X7_readNumber_222 at hF
  refine lv_aload_n hx hb dX7_readNumber_222 rfl (lv_at hl 0 rfl) ?_
  refine lv_iload_n hx hb dX7_readNumber_223 rfl (lv_at hl 1 rfl) ?_
  obtain ⟨q_9, hc_10, hF⟩ := bnd_some hF
  refine cV_i (As := [.int v1]) (rest := []) C X (c_X7_byteAt l D hT aT yT aT_0 yT_0 gT gT_0 v1 q_9 hc_10 _) (cwV 1 hts (good_V q3_134 q3_136 q0_3 q1_12 q3_137) rfl rfl rfl (by decide +kernel) ⟨Nat.le_of_ble_eq_true rfl, Nat.le_of_ble_eq_true rfl⟩) (va_recv X.1 X.2.1 (ci := 7) (q0 := 0) rfl rfl) (X.1.sub (tys' := tX7 yT ++ (tTP yT_0)) [0] rfl) (X.2.1.sub (ws' := wX7 hT aT yT gT ++ (wTP (aT 0) aT_0 yT_0 gT_0)) [0, 1] rfl) (X.2.2.1.sub (ws' := wX7 hT aT yT gT ++ (wTP (aT 0) aT_0 yT_0 gT_0)) [0, 1] (by decide) rfl) (free_of (wC := wX7 hT aT yT gT ++ (wTP (aT 0) aT_0 yT_0 gT_0)) (isC := [0, 1]) X rfl) hl.1 rfl rfl (Nat.le_of_ble_eq_true rfl) dX7_readNumber_224 ⟨Nat.le_of_ble_eq_true rfl, Nat.le_of_ble_eq_true rfl⟩ (fun t H1 locs1 ht hB hk hS => ?_)
  have X : Hx D (tX7 yT ++ (tTP yT_0 ++ (tX6 yT_1))) A s H1 locs1 (wX7 hT aT yT gT ++ (wTP (aT 0) aT_0 yT_0 gT_0 ++ (wX6 (aT 1) aT_1 yT_1 gT_1))) := Hx_after (isC := [0, 1]) (isR := [2, 3]) (pm := [2, 3, 0, 1]) (wr := wX6 (aT 1) aT_1 yT_1 gT_1) X ⟨rfl, rfl, by decide, by decide, rfl, by decide⟩ ht hB hk hS
  clear hk hS ht hB
  generalize H1 = H at X ⊢
  generalize locs1 = locs at X ⊢
  refine lv_istore (lv' := [(6, .int q_9), (0, .ref hT), (1, .int v1), (2, .int v2), (3, .int v3), (4, .int v4), (5, .int v5)]) hx hb dX7_readNumber_227 hl (by decide) rfl (fun ls hl => ?_)
  refine lv_iload hx hb dX7_readNumber_229 (lv_at hl 0 rfl) ?_
  obtain ⟨q_11, hc_12, hF⟩ := bnd_some hF
  refine cS_i (As := [.int q_9]) (rest := []) C X (c_X7_isLetter l D  q_9 q_11 hc_12 _) (va_cwS 1 hts (good_S q3_141 q3_142 q1_12 q3_143) rfl rfl rfl (by decide +kernel) ⟨Nat.le_of_ble_eq_true rfl, Nat.le_of_ble_eq_true rfl⟩) (eK X) eP (eD (A := A)) (eF X) hl.1 rfl rfl (Nat.le_of_ble_eq_true rfl) dX7_readNumber_231 ⟨Nat.le_of_ble_eq_true rfl, Nat.le_of_ble_eq_true rfl⟩ (fun t H1 locs1 ht hB hk hS => ?_)
  have X := Hx_after_none X hk hS
  clear hk hS ht hB
  generalize H1 = H at X ⊢
  generalize locs1 = locs at X ⊢
  refine lv_if_ne (tgt := 252) hx hb dX7_readNumber_234 (by decide) (fun c => ?_) (fun c => ?_)
  · replace hF := iF c hF
    have hq := Option.some.inj hF
    subst hq
    exact rt_v C X dX7_readNumber_252
  · replace hF := iT c hF
    refine lv_iload hx hb dX7_readNumber_237 (lv_at hl 0 rfl) ?_
    obtain ⟨q_13, hc_14, hF⟩ := bnd_some hF
    refine cS_i (As := [.int q_9]) (rest := []) C X (c_X7_isDigit l D  q_9 q_13 hc_14 _) (va_cwS 1 hts (good_S q3_148 q3_149 q1_12 q3_150) rfl rfl rfl (by decide +kernel) ⟨Nat.le_of_ble_eq_true rfl, Nat.le_of_ble_eq_true rfl⟩) (eK X) eP (eD (A := A)) (eF X) hl.1 rfl rfl (Nat.le_of_ble_eq_true rfl) dX7_readNumber_239 ⟨Nat.le_of_ble_eq_true rfl, Nat.le_of_ble_eq_true rfl⟩ (fun t H1 locs1 ht hB hk hS => ?_)
    have X := Hx_after_none X hk hS
    clear hk hS ht hB
    generalize H1 = H at X ⊢
    generalize locs1 = locs at X ⊢
    refine lv_if_ne (tgt := 252) hx hb dX7_readNumber_242 (by decide) (fun c => ?_) (fun c => ?_)
    · replace hF := iF c hF
      have hq := Option.some.inj hF
      subst hq
      exact rt_v C X dX7_readNumber_252
    · replace hF := iT c hF
      refine lv_iload hx hb dX7_readNumber_245 (lv_at hl 0 rfl) ?_
      refine lv_bipush (v := (46 : Int32)) hx hb dX7_readNumber_247 (by decide) ?_
      refine lv_icmp_ne (tgt := 253) hx hb dX7_readNumber_249 (by decide) (fun c => ?_) (fun c => ?_)
      · replace hF := iF c hF
        refine lv_aload_n hx hb dX7_readNumber_253 rfl (lv_at hl 1 rfl) ?_
        refine lv_iload_n hx hb dX7_readNumber_254 rfl (lv_at hl 2 rfl) ?_
        refine va_put (D := D.1) (ci := 7) (v := .int v1) (ty := .int) (C := RX7) (T := TX7) (N := 12) hx hb hts wi_X7 tyX7 tyX7_ok nmX7 hown X.1 X.2.1 X.2.2.1 X.2.2.2.1 0 rfl rfl 3 (by decide) (hts _ q2_238) (fun _ h9 => h9) rfl (by decide +kernel) rfl rfl (by rw [List.length_map, List.length_range]; decide) dX7_readNumber_255 (fun H locs hP hD hS => ?_)
        have X : Hx D (tX7 yT ++ (tTP yT_0 ++ (tX6 yT_1))) A s H locs (wX7 hT aT yT (sI gT 3 v1) ++ (wTP (aT 0) aT_0 yT_0 gT_0 ++ (wX6 (aT 1) aT_1 yT_1 gT_1))) := Hx_set X (set_l (by rw [wG_len (m := 1) rfl]; decide) (wG_sI (k := 3) rfl)) hP hD hS
        refine lv_iload hx hb dX7_readNumber_258 (lv_at hl 6 rfl) ?_
        refine lv_bipush (v := (102 : Int32)) hx hb dX7_readNumber_260 (by decide) ?_
        refine lv_icmp_eq (tgt := 273) hx hb dX7_readNumber_262 (by decide) (fun c => ?_) (fun c => ?_)
        · replace hF := iT c hF
          exact (k_X7_readNumber_273 l D hT aT yT aT_0 yT_0 aT_1 yT_1 n rec IH) C X (lv_sub hl [1, 3, 5, 6] rfl) hF
        · replace hF := iF c hF
          refine lv_iload_n hx hb dX7_readNumber_265 rfl (lv_at hl 3 rfl) ?_
          refine lv_if_gt (tgt := 273) hx hb dX7_readNumber_266 (by decide) (fun c => ?_) (fun c => ?_)
          · replace hF := iT c hF
            exact (k_X7_readNumber_273 l D hT aT yT aT_0 yT_0 aT_1 yT_1 n rec IH) C X (lv_sub hl [1, 3, 5, 6] rfl) hF
          · replace hF := iF c hF
            refine lv_iload_n hx hb dX7_readNumber_269 rfl (lv_at hl 4 rfl) ?_
            refine lv_if_eq (tgt := 285) hx hb dX7_readNumber_270 (by decide) (fun c => ?_) (fun c => ?_)
            · replace hF := iT c hF
              refine lv_aload_n hx hb dX7_readNumber_285 rfl (lv_at hl 1 rfl) ?_
              refine lv_iload hx hb dX7_readNumber_286 (lv_at hl 6 rfl) ?_
              obtain ⟨q_17, hc_18, hF⟩ := bnd_some hF
              refine cV_v (As := [.int v5]) (rest := []) C X (c_X7_settleWhole l D hT aT yT (sI gT 3 v1) v5 q_17 hc_18 _) (cwV 1 hts (good_V q3_220 q3_222 q0_9 q1_12 q3_223) rfl rfl rfl (by decide +kernel) ⟨Nat.le_of_ble_eq_true rfl, Nat.le_of_ble_eq_true rfl⟩) (va_recv X.1 X.2.1 (ci := 7) (q0 := 0) rfl rfl) (X.1.sub (tys' := tX7 yT) [] rfl) (X.2.1.sub (ws' := wX7 hT aT yT (sI gT 3 v1)) [0] rfl) (X.2.2.1.sub (ws' := wX7 hT aT yT (sI gT 3 v1)) [0] (by decide) rfl) (free_of (wC := wX7 hT aT yT (sI gT 3 v1)) (isC := [0]) X rfl) hl.1 rfl rfl (Nat.le_of_ble_eq_true rfl) dX7_readNumber_288 ⟨Nat.le_of_ble_eq_true rfl, Nat.le_of_ble_eq_true rfl⟩ (fun t H1 locs1 ht hB hk hS => ?_)
              have X : Hx D (tX7 yT ++ (tTP yT_0 ++ (tX6 yT_1))) A s H1 locs1 (wX7 hT aT yT q_17 ++ (wTP (aT 0) aT_0 yT_0 gT_0 ++ (wX6 (aT 1) aT_1 yT_1 gT_1))) := Hx_after (isC := [0]) (isR := [1, 2, 3]) (pm := [3, 0, 1, 2]) (wr := wTP (aT 0) aT_0 yT_0 gT_0 ++ (wX6 (aT 1) aT_1 yT_1 gT_1)) X ⟨rfl, rfl, by decide, by decide, rfl, by decide⟩ ht hB hk hS
              clear hk hS ht hB
              generalize H1 = H at X ⊢
              generalize locs1 = locs at X ⊢
              have hq := Option.some.inj hF
              subst hq
              exact rt_v C X dX7_readNumber_291
            · replace hF := iF c hF
              exact (k_X7_readNumber_273 l D hT aT yT aT_0 yT_0 aT_1 yT_1 n rec IH) C X (lv_sub hl [1, 3, 5, 6] rfl) hF
      · replace hF := iT c hF
        have hq := Option.some.inj hF
        subst hq
        exact rt_v C X dX7_readNumber_252
set_option maxHeartbeats 4000000 in
set_option maxRecDepth 100000 in
theorem k_X7_readNumber_219 (l : Launch) (D : Dx) (hT : Nat) (aT : Nat → Nat) (yT : Nat → ClassId) (aT_0 : Nat → Nat) (yT_0 : Nat → ClassId) (aT_1 : Nat → Nat) (yT_1 : Nat → ClassId) (n : Nat) (rec : (Gs → Gs → Gs → Int32 → Int32 → Int32 → Int32 → Int32 → Int32 → Option (Gs))) (IH : SH_X7_readNumber l D hT aT yT aT_0 yT_0 aT_1 yT_1 rec) : S_X7_readNumber_219 l D hT aT yT aT_0 yT_0 aT_1 yT_1 (b_X7_readNumber_219 n rec) := by
  intro p e s m args below meth c H locs A ls gT gT_0 gT_1 v1 v2 v3 v4 v5 q C X hl hF
  obtain ⟨hx, hb, hr, hml, hown, hts, hlk⟩ := id C
  unfold b_X7_readNumber_219 at hF
  refine lv_iinc (v := v1 + (1 : Int32)) (lv' := [(1, .int (v1 + (1 : Int32))), (0, .ref hT), (2, .int v2), (3, .int v3), (4, .int v4), (5, .int v5)]) hx hb dX7_readNumber_219 hl (k := 1) rfl rfl (by decide) rfl (fun ls hl => ?_)
  exact (k_X7_readNumber_222 l D hT aT yT aT_0 yT_0 aT_1 yT_1 n rec IH) C X (lv_sub hl [1, 0, 2, 3, 4, 5] rfl) hF
set_option maxHeartbeats 4000000 in
set_option maxRecDepth 100000 in
theorem k_X7_readNumber_198 (l : Launch) (D : Dx) (hT : Nat) (aT : Nat → Nat) (yT : Nat → ClassId) (aT_0 : Nat → Nat) (yT_0 : Nat → ClassId) (aT_1 : Nat → Nat) (yT_1 : Nat → ClassId) (n : Nat) (rec : (Gs → Gs → Gs → Int32 → Int32 → Int32 → Int32 → Int32 → Int32 → Option (Gs))) (IH : SH_X7_readNumber l D hT aT yT aT_0 yT_0 aT_1 yT_1 rec) : S_X7_readNumber_198 l D hT aT yT aT_0 yT_0 aT_1 yT_1 (b_X7_readNumber_198 n rec) := by
  intro p e s m args below meth c H locs A ls gT gT_0 gT_1 v1 v2 v3 v4 q C X hl hF
  obtain ⟨hx, hb, hr, hml, hown, hts, hlk⟩ := id C
  unfold b_X7_readNumber_198 at hF
  refine lv_aload_n hx hb dX7_readNumber_198 rfl (lv_at hl 0 rfl) ?_
  refine lv_iload_n hx hb dX7_readNumber_199 rfl (lv_at hl 1 rfl) ?_
  obtain ⟨q_7, hc_8, hF⟩ := bnd_some hF
  refine cV_i (As := [.int v1]) (rest := []) C X (c_X7_byteAt l D hT aT yT aT_0 yT_0 gT gT_0 v1 q_7 hc_8 _) (cwV 1 hts (good_V q3_134 q3_136 q0_3 q1_12 q3_137) rfl rfl rfl (by decide +kernel) ⟨Nat.le_of_ble_eq_true rfl, Nat.le_of_ble_eq_true rfl⟩) (va_recv X.1 X.2.1 (ci := 7) (q0 := 0) rfl rfl) (X.1.sub (tys' := tX7 yT ++ (tTP yT_0)) [0] rfl) (X.2.1.sub (ws' := wX7 hT aT yT gT ++ (wTP (aT 0) aT_0 yT_0 gT_0)) [0, 1] rfl) (X.2.2.1.sub (ws' := wX7 hT aT yT gT ++ (wTP (aT 0) aT_0 yT_0 gT_0)) [0, 1] (by decide) rfl) (free_of (wC := wX7 hT aT yT gT ++ (wTP (aT 0) aT_0 yT_0 gT_0)) (isC := [0, 1]) X rfl) hl.1 rfl rfl (Nat.le_of_ble_eq_true rfl) dX7_readNumber_200 ⟨Nat.le_of_ble_eq_true rfl, Nat.le_of_ble_eq_true rfl⟩ (fun t H1 locs1 ht hB hk hS => ?_)
  have X : Hx D (tX7 yT ++ (tTP yT_0 ++ (tX6 yT_1))) A s H1 locs1 (wX7 hT aT yT gT ++ (wTP (aT 0) aT_0 yT_0 gT_0 ++ (wX6 (aT 1) aT_1 yT_1 gT_1))) := Hx_after (isC := [0, 1]) (isR := [2, 3]) (pm := [2, 3, 0, 1]) (wr := wX6 (aT 1) aT_1 yT_1 gT_1) X ⟨rfl, rfl, by decide, by decide, rfl, by decide⟩ ht hB hk hS
  clear hk hS ht hB
  generalize H1 = H at X ⊢
  generalize locs1 = locs at X ⊢
  refine lv_istore (lv' := [(5, .int q_7), (0, .ref hT), (1, .int v1), (2, .int v2), (3, .int v3), (4, .int v4)]) hx hb dX7_readNumber_203 hl (by decide) rfl (fun ls hl => ?_)
  refine lv_iload hx hb dX7_readNumber_205 (lv_at hl 0 rfl) ?_
  refine lv_bipush (v := (108 : Int32)) hx hb dX7_readNumber_207 (by decide) ?_
  refine lv_icmp_eq (tgt := 219) hx hb dX7_readNumber_209 (by decide) (fun c => ?_) (fun c => ?_)
  · replace hF := iT c hF
    exact (k_X7_readNumber_219 l D hT aT yT aT_0 yT_0 aT_1 yT_1 n rec IH) C X (lv_sub hl [1, 2, 3, 4, 5, 0] rfl) hF
  · replace hF := iF c hF
    refine lv_iload hx hb dX7_readNumber_212 (lv_at hl 0 rfl) ?_
    refine lv_bipush (v := (102 : Int32)) hx hb dX7_readNumber_214 (by decide) ?_
    refine lv_icmp_ne (tgt := 222) hx hb dX7_readNumber_216 (by decide) (fun c => ?_) (fun c => ?_)
    · replace hF := iF c hF
      exact (k_X7_readNumber_222 l D hT aT yT aT_0 yT_0 aT_1 yT_1 n rec IH) C X (lv_sub hl [1, 2, 3, 4, 5, 0] rfl) hF
    · replace hF := iT c hF
      exact (k_X7_readNumber_219 l D hT aT yT aT_0 yT_0 aT_1 yT_1 n rec IH) C X (lv_sub hl [1, 2, 3, 4, 5, 0] rfl) hF
set_option maxHeartbeats 4000000 in
set_option maxRecDepth 100000 in
theorem k_X7_readNumber_196 (l : Launch) (D : Dx) (hT : Nat) (aT : Nat → Nat) (yT : Nat → ClassId) (aT_0 : Nat → Nat) (yT_0 : Nat → ClassId) (aT_1 : Nat → Nat) (yT_1 : Nat → ClassId) (n : Nat) (rec : (Gs → Gs → Gs → Int32 → Int32 → Int32 → Int32 → Int32 → Int32 → Option (Gs))) (IH : SH_X7_readNumber l D hT aT yT aT_0 yT_0 aT_1 yT_1 rec) : S_X7_readNumber_196 l D hT aT yT aT_0 yT_0 aT_1 yT_1 (b_X7_readNumber_196 n rec) := by
  intro p e s m args below meth c H locs A ls gT gT_0 gT_1 v1 v2 v3 s0 q C X hl hF
  obtain ⟨hx, hb, hr, hml, hown, hts, hlk⟩ := id C
  unfold b_X7_readNumber_196 at hF
  refine lv_istore (lv' := [(4, .int s0), (0, .ref hT), (1, .int v1), (2, .int v2), (3, .int v3)]) hx hb dX7_readNumber_196 hl (by decide) rfl (fun ls hl => ?_)
  exact (k_X7_readNumber_198 l D hT aT yT aT_0 yT_0 aT_1 yT_1 n rec IH) C X (lv_sub hl [1, 2, 3, 4, 0] rfl) hF
set_option maxHeartbeats 4000000 in
set_option maxRecDepth 100000 in
theorem k_X7_readNumber_168 (l : Launch) (D : Dx) (hT : Nat) (aT : Nat → Nat) (yT : Nat → ClassId) (aT_0 : Nat → Nat) (yT_0 : Nat → ClassId) (aT_1 : Nat → Nat) (yT_1 : Nat → ClassId) (n : Nat) (rec : (Gs → Gs → Gs → Int32 → Int32 → Int32 → Int32 → Int32 → Int32 → Option (Gs))) (IH : SH_X7_readNumber l D hT aT yT aT_0 yT_0 aT_1 yT_1 rec) : S_X7_readNumber_168 l D hT aT yT aT_0 yT_0 aT_1 yT_1 (b_X7_readNumber_168 n rec) := by
  intro p e s m args below meth c H locs A ls gT gT_0 gT_1 v1 v2 v3 v4 v5 v6 q C X hl hF
  obtain ⟨hx, hb, hr, hml, hown, hts, hlk⟩ := id C
  unfold b_X7_readNumber_168 at hF
  refine lv_iload_n hx hb dX7_readNumber_168 rfl (lv_at hl 1 rfl) ?_
  refine lv_iload hx hb dX7_readNumber_169 (lv_at hl 6 rfl) ?_
  refine lv_icmp_eq (tgt := 182) hx hb dX7_readNumber_171 (by decide) (fun c => ?_) (fun c => ?_)
  · replace hF := iT c hF
    have hq := Option.some.inj hF
    subst hq
    exact rt_v C X dX7_readNumber_182
  · replace hF := iF c hF
    refine lv_iload hx hb dX7_readNumber_174 (lv_at hl 4 rfl) ?_
    refine lv_sipush (v := (1100 : Int32)) hx hb dX7_readNumber_176 (by decide) ?_
    refine lv_icmp_le (tgt := 183) hx hb dX7_readNumber_179 (by decide) (fun c => ?_) (fun c => ?_)
    · replace hF := iT c hF
      refine lv_iload hx hb dX7_readNumber_183 (lv_at hl 5 rfl) ?_
      refine lv_if_eq (tgt := 194) hx hb dX7_readNumber_185 (by decide) (fun c => ?_) (fun c => ?_)
      · replace hF := iT c hF
        refine lv_iload hx hb dX7_readNumber_194 (lv_at hl 4 rfl) ?_
        exact (k_X7_readNumber_196 l D hT aT yT aT_0 yT_0 aT_1 yT_1 n rec IH) C X (lv_sub hl [0, 1, 2, 3] rfl) hF
      · replace hF := iF c hF
        refine lv_iload hx hb dX7_readNumber_188 (lv_at hl 4 rfl) ?_
        refine lv_ineg hx hb dX7_readNumber_190 ?_
        refine lv_goto (tgt := 196) hx hb dX7_readNumber_191 (by decide) ?_
        exact (k_X7_readNumber_196 l D hT aT yT aT_0 yT_0 aT_1 yT_1 n rec IH) C X (lv_sub hl [0, 1, 2, 3] rfl) hF
    · replace hF := iF c hF
      have hq := Option.some.inj hF
      subst hq
      exact rt_v C X dX7_readNumber_182
set_option maxHeartbeats 4000000 in
set_option maxRecDepth 100000 in
theorem k_X7_readNumber_121 (l : Launch) (D : Dx) (hT : Nat) (aT : Nat → Nat) (yT : Nat → ClassId) (aT_0 : Nat → Nat) (yT_0 : Nat → ClassId) (aT_1 : Nat → Nat) (yT_1 : Nat → ClassId) (n : Nat) (rec : (Gs → Gs → Gs → Int32 → Int32 → Int32 → Int32 → Int32 → Int32 → Option (Gs))) (IH : SH_X7_readNumber l D hT aT yT aT_0 yT_0 aT_1 yT_1 rec) : S_X7_readNumber_121 l D hT aT yT aT_0 yT_0 aT_1 yT_1 (h_X7_readNumber_121 n rec) := by
  intro p e s m args below meth c H locs A ls gT gT_0 gT_1 v1 v2 v3 v4 v5 v6 q C X hl hF
  obtain ⟨hx, hb, hr, hml, hown, hts, hlk⟩ := id C
  unfold h_X7_readNumber_121 at hF
  refine lv_iload_n hx hb dX7_readNumber_121 rfl (lv_at hl 1 rfl) ?_
  refine lv_aload_n hx hb dX7_readNumber_122 rfl (lv_at hl 0 rfl) ?_
  refine va_get (D := D.1) (ci := 7) (v := .int (gI gT 2)) (C := RX7) (T := TX7) (N := 12) hx hb hts wi_X7 hown X.1 X.2.1 0 rfl rfl 2 (by decide) (hts _ q2_237) (fun _ h9 => h9) (fl_get (by decide)) dX7_readNumber_123 ?_
  refine lv_icmp_ge (tgt := 168) hx hb dX7_readNumber_126 (by decide) (fun c => ?_) (fun c => ?_)
  · replace hF := iT c hF
    exact (k_X7_readNumber_168 l D hT aT yT aT_0 yT_0 aT_1 yT_1 n rec IH) C X (lv_sub hl [0, 1, 2, 3, 4, 5, 6] rfl) hF
  · replace hF := iF c hF
    refine lv_aload_n hx hb dX7_readNumber_129 rfl (lv_at hl 0 rfl) ?_
    refine lv_iload_n hx hb dX7_readNumber_130 rfl (lv_at hl 1 rfl) ?_
    obtain ⟨q_21, hc_22, hF⟩ := bnd_some hF
    refine cV_i (As := [.int v1]) (rest := []) C X (c_X7_byteAt l D hT aT yT aT_0 yT_0 gT gT_0 v1 q_21 hc_22 _) (cwV 1 hts (good_V q3_134 q3_136 q0_3 q1_12 q3_137) rfl rfl rfl (by decide +kernel) ⟨Nat.le_of_ble_eq_true rfl, Nat.le_of_ble_eq_true rfl⟩) (va_recv X.1 X.2.1 (ci := 7) (q0 := 0) rfl rfl) (X.1.sub (tys' := tX7 yT ++ (tTP yT_0)) [0] rfl) (X.2.1.sub (ws' := wX7 hT aT yT gT ++ (wTP (aT 0) aT_0 yT_0 gT_0)) [0, 1] rfl) (X.2.2.1.sub (ws' := wX7 hT aT yT gT ++ (wTP (aT 0) aT_0 yT_0 gT_0)) [0, 1] (by decide) rfl) (free_of (wC := wX7 hT aT yT gT ++ (wTP (aT 0) aT_0 yT_0 gT_0)) (isC := [0, 1]) X rfl) hl.1 rfl rfl (Nat.le_of_ble_eq_true rfl) dX7_readNumber_131 ⟨Nat.le_of_ble_eq_true rfl, Nat.le_of_ble_eq_true rfl⟩ (fun t H1 locs1 ht hB hk hS => ?_)
    have X : Hx D (tX7 yT ++ (tTP yT_0 ++ (tX6 yT_1))) A s H1 locs1 (wX7 hT aT yT gT ++ (wTP (aT 0) aT_0 yT_0 gT_0 ++ (wX6 (aT 1) aT_1 yT_1 gT_1))) := Hx_after (isC := [0, 1]) (isR := [2, 3]) (pm := [2, 3, 0, 1]) (wr := wX6 (aT 1) aT_1 yT_1 gT_1) X ⟨rfl, rfl, by decide, by decide, rfl, by decide⟩ ht hB hk hS
    clear hk hS ht hB
    generalize H1 = H at X ⊢
    generalize locs1 = locs at X ⊢
    obtain ⟨q_23, hc_24, hF⟩ := bnd_some hF
    refine cS_i (As := [.int q_21]) (rest := []) C X (c_X7_isDigit l D  q_21 q_23 hc_24 _) (va_cwS 1 hts (good_S q3_148 q3_149 q1_12 q3_150) rfl rfl rfl (by decide +kernel) ⟨Nat.le_of_ble_eq_true rfl, Nat.le_of_ble_eq_true rfl⟩) (eK X) eP (eD (A := A)) (eF X) hl.1 rfl rfl (Nat.le_of_ble_eq_true rfl) dX7_readNumber_134 ⟨Nat.le_of_ble_eq_true rfl, Nat.le_of_ble_eq_true rfl⟩ (fun t H1 locs1 ht hB hk hS => ?_)
    have X := Hx_after_none X hk hS
    clear hk hS ht hB
    generalize H1 = H at X ⊢
    generalize locs1 = locs at X ⊢
    refine lv_if_eq (tgt := 168) hx hb dX7_readNumber_137 (by decide) (fun c => ?_) (fun c => ?_)
    · replace hF := iT c hF
      exact (k_X7_readNumber_168 l D hT aT yT aT_0 yT_0 aT_1 yT_1 n rec IH) C X (lv_sub hl [0, 1, 2, 3, 4, 5, 6] rfl) hF
    · replace hF := iF c hF
      refine lv_iload hx hb dX7_readNumber_140 (lv_at hl 4 rfl) ?_
      refine lv_bipush (v := (10 : Int32)) hx hb dX7_readNumber_142 (by decide) ?_
      refine lv_imul hx hb dX7_readNumber_144 ?_
      refine lv_aload_n hx hb dX7_readNumber_145 rfl (lv_at hl 0 rfl) ?_
      refine lv_iload_n hx hb dX7_readNumber_146 rfl (lv_at hl 1 rfl) ?_
      obtain ⟨q_25, hc_26, hF⟩ := bnd_some hF
      refine cV_i (As := [.int v1]) (rest := [.int (v4 * (10 : Int32))]) C X (c_X7_byteAt l D hT aT yT aT_0 yT_0 gT gT_0 v1 q_25 hc_26 _) (cwV 1 hts (good_V q3_134 q3_136 q0_3 q1_12 q3_137) rfl rfl rfl (by decide +kernel) ⟨Nat.le_of_ble_eq_true rfl, Nat.le_of_ble_eq_true rfl⟩) (va_recv X.1 X.2.1 (ci := 7) (q0 := 0) rfl rfl) (X.1.sub (tys' := tX7 yT ++ (tTP yT_0)) [0] rfl) (X.2.1.sub (ws' := wX7 hT aT yT gT ++ (wTP (aT 0) aT_0 yT_0 gT_0)) [0, 1] rfl) (X.2.2.1.sub (ws' := wX7 hT aT yT gT ++ (wTP (aT 0) aT_0 yT_0 gT_0)) [0, 1] (by decide) rfl) (free_of (wC := wX7 hT aT yT gT ++ (wTP (aT 0) aT_0 yT_0 gT_0)) (isC := [0, 1]) X rfl) hl.1 rfl rfl (Nat.le_of_ble_eq_true rfl) dX7_readNumber_147 ⟨Nat.le_of_ble_eq_true rfl, Nat.le_of_ble_eq_true rfl⟩ (fun t H1 locs1 ht hB hk hS => ?_)
      have X : Hx D (tX7 yT ++ (tTP yT_0 ++ (tX6 yT_1))) A s H1 locs1 (wX7 hT aT yT gT ++ (wTP (aT 0) aT_0 yT_0 gT_0 ++ (wX6 (aT 1) aT_1 yT_1 gT_1))) := Hx_after (isC := [0, 1]) (isR := [2, 3]) (pm := [2, 3, 0, 1]) (wr := wX6 (aT 1) aT_1 yT_1 gT_1) X ⟨rfl, rfl, by decide, by decide, rfl, by decide⟩ ht hB hk hS
      clear hk hS ht hB
      generalize H1 = H at X ⊢
      generalize locs1 = locs at X ⊢
      refine lv_iadd hx hb dX7_readNumber_150 ?_
      refine lv_bipush (v := (48 : Int32)) hx hb dX7_readNumber_151 (by decide) ?_
      refine lv_isub hx hb dX7_readNumber_153 ?_
      refine lv_sipush (v := (1101 : Int32)) hx hb dX7_readNumber_154 (by decide) ?_
      refine va_mmin hx hb (by rw [hml]; exact hl.1.symm) hown (hts _ q3_127) (hts _ q3_128) (hts _ q1_14) (hts _ q3_129) (Nat.le_of_ble_eq_true rfl) (Nat.le_of_ble_eq_true rfl) (Nat.le_of_ble_eq_true rfl) (Nat.le_of_ble_eq_true rfl) dX7_readNumber_157 ?_
      refine lv_istore (lv' := [(4, .int (if (1101 : Int32) < (((v4 * (10 : Int32)) + q_25) - (48 : Int32)) then (1101 : Int32) else (((v4 * (10 : Int32)) + q_25) - (48 : Int32)))), (0, .ref hT), (1, .int v1), (2, .int v2), (3, .int v3), (5, .int v5), (6, .int v6)]) hx hb dX7_readNumber_160 hl (by decide) rfl (fun ls hl => ?_)
      refine lv_iinc (v := v1 + (1 : Int32)) (lv' := [(1, .int (v1 + (1 : Int32))), (4, .int (if (1101 : Int32) < (((v4 * (10 : Int32)) + q_25) - (48 : Int32)) then (1101 : Int32) else (((v4 * (10 : Int32)) + q_25) - (48 : Int32)))), (0, .ref hT), (2, .int v2), (3, .int v3), (5, .int v5), (6, .int v6)]) hx hb dX7_readNumber_162 hl (k := 2) rfl rfl (by decide) rfl (fun ls hl => ?_)
      refine lv_goto (tgt := 121) hx hb dX7_readNumber_165 (by decide) ?_
      exact IH C X (lv_sub hl [2, 0, 3, 4, 1, 5, 6] rfl) hF
set_option maxHeartbeats 4000000 in
set_option maxRecDepth 100000 in
theorem k_X7_readNumber_115 (l : Launch) (D : Dx) (hT : Nat) (aT : Nat → Nat) (yT : Nat → ClassId) (aT_0 : Nat → Nat) (yT_0 : Nat → ClassId) (aT_1 : Nat → Nat) (yT_1 : Nat → ClassId) (n : Nat) (rec : (Gs → Gs → Gs → Int32 → Int32 → Int32 → Int32 → Int32 → Int32 → Option (Gs))) (IH : SH_X7_readNumber l D hT aT yT aT_0 yT_0 aT_1 yT_1 rec) : S_X7_readNumber_115 l D hT aT yT aT_0 yT_0 aT_1 yT_1 (b_X7_readNumber_115 n rec) := by
  intro p e s m args below meth c H locs A ls gT gT_0 gT_1 v2 v3 v4 v5 s0 s1 q C X hl hF
  obtain ⟨hx, hb, hr, hml, hown, hts, hlk⟩ := id C
  unfold b_X7_readNumber_115 at hF
  refine lv_iadd hx hb dX7_readNumber_115 ?_
  refine lv_istore (lv' := [(6, .int (s1 + s0)), (0, .ref hT), (2, .int v2), (3, .int v3), (4, .int v4), (5, .int v5)]) hx hb dX7_readNumber_116 hl (by decide) rfl (fun ls hl => ?_)
  refine lv_iload hx hb dX7_readNumber_118 (lv_at hl 0 rfl) ?_
  refine lv_istore_n (lv' := [(1, .int (s1 + s0)), (6, .int (s1 + s0)), (0, .ref hT), (2, .int v2), (3, .int v3), (4, .int v4), (5, .int v5)]) hx hb dX7_readNumber_120 rfl hl (by decide) rfl (fun ls hl => ?_)
  exact IH C X (lv_sub hl [2, 0, 3, 4, 5, 6, 1] rfl) hF
set_option maxHeartbeats 4000000 in
set_option maxRecDepth 100000 in
theorem k_X7_readNumber_102 (l : Launch) (D : Dx) (hT : Nat) (aT : Nat → Nat) (yT : Nat → ClassId) (aT_0 : Nat → Nat) (yT_0 : Nat → ClassId) (aT_1 : Nat → Nat) (yT_1 : Nat → ClassId) (n : Nat) (rec : (Gs → Gs → Gs → Int32 → Int32 → Int32 → Int32 → Int32 → Int32 → Option (Gs))) (IH : SH_X7_readNumber l D hT aT yT aT_0 yT_0 aT_1 yT_1 rec) : S_X7_readNumber_102 l D hT aT yT aT_0 yT_0 aT_1 yT_1 (b_X7_readNumber_102 n rec) := by
  intro p e s m args below meth c H locs A ls gT gT_0 gT_1 v1 v2 v3 v4 s0 q C X hl hF
  obtain ⟨hx, hb, hr, hml, hown, hts, hlk⟩ := id C
  unfold b_X7_readNumber_102 at hF
  refine lv_istore (lv' := [(5, .int s0), (0, .ref hT), (1, .int v1), (2, .int v2), (3, .int v3), (4, .int v4)]) hx hb dX7_readNumber_102 hl (by decide) rfl (fun ls hl => ?_)
  refine lv_iload_n hx hb dX7_readNumber_104 rfl (lv_at hl 2 rfl) ?_
  refine lv_iload hx hb dX7_readNumber_105 (lv_at hl 0 rfl) ?_
  refine lv_if_eq (tgt := 114) hx hb dX7_readNumber_107 (by decide) (fun c => ?_) (fun c => ?_)
  · replace hF := iT c hF
    refine lv_iconst (v := (1 : Int32)) hx hb dX7_readNumber_114 (by decide) ?_
    exact (k_X7_readNumber_115 l D hT aT yT aT_0 yT_0 aT_1 yT_1 n rec IH) C X (lv_sub hl [1, 3, 4, 5, 0] rfl) hF
  · replace hF := iF c hF
    refine lv_iconst (v := (2 : Int32)) hx hb dX7_readNumber_110 (by decide) ?_
    refine lv_goto (tgt := 115) hx hb dX7_readNumber_111 (by decide) ?_
    exact (k_X7_readNumber_115 l D hT aT yT aT_0 yT_0 aT_1 yT_1 n rec IH) C X (lv_sub hl [1, 3, 4, 5, 0] rfl) hF
set_option maxHeartbeats 4000000 in
set_option maxRecDepth 100000 in
theorem k_X7_readNumber_77 (l : Launch) (D : Dx) (hT : Nat) (aT : Nat → Nat) (yT : Nat → ClassId) (aT_0 : Nat → Nat) (yT_0 : Nat → ClassId) (aT_1 : Nat → Nat) (yT_1 : Nat → ClassId) (n : Nat) (rec : (Gs → Gs → Gs → Int32 → Int32 → Int32 → Int32 → Int32 → Int32 → Option (Gs))) (IH : SH_X7_readNumber l D hT aT yT aT_0 yT_0 aT_1 yT_1 rec) : S_X7_readNumber_77 l D hT aT yT aT_0 yT_0 aT_1 yT_1 (b_X7_readNumber_77 n rec) := by
  intro p e s m args below meth c H locs A ls gT gT_0 gT_1 v1 v2 s0 q C X hl hF
  obtain ⟨hx, hb, hr, hml, hown, hts, hlk⟩ := id C
  unfold b_X7_readNumber_77 at hF
  refine lv_istore_n (lv' := [(3, .int s0), (0, .ref hT), (1, .int v1), (2, .int v2)]) hx hb dX7_readNumber_77 rfl hl (by decide) rfl (fun ls hl => ?_)
  refine lv_iconst (v := (0 : Int32)) hx hb dX7_readNumber_78 (by decide) ?_
  refine lv_istore (lv' := [(4, .int (0 : Int32)), (3, .int s0), (0, .ref hT), (1, .int v1), (2, .int v2)]) hx hb dX7_readNumber_79 hl (by decide) rfl (fun ls hl => ?_)
  refine lv_iload_n hx hb dX7_readNumber_81 rfl (lv_at hl 1 rfl) ?_
  refine lv_if_eq (tgt := 198) hx hb dX7_readNumber_82 (by decide) (fun c => ?_) (fun c => ?_)
  · replace hF := iT c hF
    exact (k_X7_readNumber_198 l D hT aT yT aT_0 yT_0 aT_1 yT_1 n rec IH) C X (lv_sub hl [2, 3, 4, 1, 0] rfl) hF
  · replace hF := iF c hF
    refine lv_aload_n hx hb dX7_readNumber_85 rfl (lv_at hl 2 rfl) ?_
    refine lv_iload_n hx hb dX7_readNumber_86 rfl (lv_at hl 3 rfl) ?_
    refine lv_iconst (v := (1 : Int32)) hx hb dX7_readNumber_87 (by decide) ?_
    refine lv_iadd hx hb dX7_readNumber_88 ?_
    obtain ⟨q_19, hc_20, hF⟩ := bnd_some hF
    refine cV_i (As := [.int (v1 + (1 : Int32))]) (rest := []) C X (c_X7_byteAt l D hT aT yT aT_0 yT_0 gT gT_0 (v1 + (1 : Int32)) q_19 hc_20 _) (cwV 1 hts (good_V q3_134 q3_136 q0_3 q1_12 q3_137) rfl rfl rfl (by decide +kernel) ⟨Nat.le_of_ble_eq_true rfl, Nat.le_of_ble_eq_true rfl⟩) (va_recv X.1 X.2.1 (ci := 7) (q0 := 0) rfl rfl) (X.1.sub (tys' := tX7 yT ++ (tTP yT_0)) [0] rfl) (X.2.1.sub (ws' := wX7 hT aT yT gT ++ (wTP (aT 0) aT_0 yT_0 gT_0)) [0, 1] rfl) (X.2.2.1.sub (ws' := wX7 hT aT yT gT ++ (wTP (aT 0) aT_0 yT_0 gT_0)) [0, 1] (by decide) rfl) (free_of (wC := wX7 hT aT yT gT ++ (wTP (aT 0) aT_0 yT_0 gT_0)) (isC := [0, 1]) X rfl) hl.1 rfl rfl (Nat.le_of_ble_eq_true rfl) dX7_readNumber_89 ⟨Nat.le_of_ble_eq_true rfl, Nat.le_of_ble_eq_true rfl⟩ (fun t H1 locs1 ht hB hk hS => ?_)
    have X : Hx D (tX7 yT ++ (tTP yT_0 ++ (tX6 yT_1))) A s H1 locs1 (wX7 hT aT yT gT ++ (wTP (aT 0) aT_0 yT_0 gT_0 ++ (wX6 (aT 1) aT_1 yT_1 gT_1))) := Hx_after (isC := [0, 1]) (isR := [2, 3]) (pm := [2, 3, 0, 1]) (wr := wX6 (aT 1) aT_1 yT_1 gT_1) X ⟨rfl, rfl, by decide, by decide, rfl, by decide⟩ ht hB hk hS
    clear hk hS ht hB
    generalize H1 = H at X ⊢
    generalize locs1 = locs at X ⊢
    refine lv_bipush (v := (45 : Int32)) hx hb dX7_readNumber_92 (by decide) ?_
    refine lv_icmp_ne (tgt := 101) hx hb dX7_readNumber_94 (by decide) (fun c => ?_) (fun c => ?_)
    · replace hF := iF c hF
      refine lv_iconst (v := (0 : Int32)) hx hb dX7_readNumber_101 (by decide) ?_
      exact (k_X7_readNumber_102 l D hT aT yT aT_0 yT_0 aT_1 yT_1 n rec IH) C X (lv_sub hl [2, 3, 4, 1, 0] rfl) hF
    · replace hF := iT c hF
      refine lv_iconst (v := (1 : Int32)) hx hb dX7_readNumber_97 (by decide) ?_
      refine lv_goto (tgt := 102) hx hb dX7_readNumber_98 (by decide) ?_
      exact (k_X7_readNumber_102 l D hT aT yT aT_0 yT_0 aT_1 yT_1 n rec IH) C X (lv_sub hl [2, 3, 4, 1, 0] rfl) hF
set_option maxHeartbeats 4000000 in
set_option maxRecDepth 100000 in
theorem k_X7_readNumber_62 (l : Launch) (D : Dx) (hT : Nat) (aT : Nat → Nat) (yT : Nat → ClassId) (aT_0 : Nat → Nat) (yT_0 : Nat → ClassId) (aT_1 : Nat → Nat) (yT_1 : Nat → ClassId) (n : Nat) (rec : (Gs → Gs → Gs → Int32 → Int32 → Int32 → Int32 → Int32 → Int32 → Option (Gs))) (IH : SH_X7_readNumber l D hT aT yT aT_0 yT_0 aT_1 yT_1 rec) : S_X7_readNumber_62 l D hT aT yT aT_0 yT_0 aT_1 yT_1 (b_X7_readNumber_62 n rec) := by
  intro p e s m args below meth c H locs A ls gT gT_0 gT_1 v1 v2 q C X hl hF
  obtain ⟨hx, hb, hr, hml, hown, hts, hlk⟩ := id C
  unfold b_X7_readNumber_62 at hF
  refine lv_aload_n hx hb dX7_readNumber_62 rfl (lv_at hl 0 rfl) ?_
  refine lv_iload_n hx hb dX7_readNumber_63 rfl (lv_at hl 1 rfl) ?_
  obtain ⟨q_5, hc_6, hF⟩ := bnd_some hF
  refine cV_i (As := [.int v1]) (rest := []) C X (c_X7_byteAt l D hT aT yT aT_0 yT_0 gT gT_0 v1 q_5 hc_6 _) (cwV 1 hts (good_V q3_134 q3_136 q0_3 q1_12 q3_137) rfl rfl rfl (by decide +kernel) ⟨Nat.le_of_ble_eq_true rfl, Nat.le_of_ble_eq_true rfl⟩) (va_recv X.1 X.2.1 (ci := 7) (q0 := 0) rfl rfl) (X.1.sub (tys' := tX7 yT ++ (tTP yT_0)) [0] rfl) (X.2.1.sub (ws' := wX7 hT aT yT gT ++ (wTP (aT 0) aT_0 yT_0 gT_0)) [0, 1] rfl) (X.2.2.1.sub (ws' := wX7 hT aT yT gT ++ (wTP (aT 0) aT_0 yT_0 gT_0)) [0, 1] (by decide) rfl) (free_of (wC := wX7 hT aT yT gT ++ (wTP (aT 0) aT_0 yT_0 gT_0)) (isC := [0, 1]) X rfl) hl.1 rfl rfl (Nat.le_of_ble_eq_true rfl) dX7_readNumber_64 ⟨Nat.le_of_ble_eq_true rfl, Nat.le_of_ble_eq_true rfl⟩ (fun t H1 locs1 ht hB hk hS => ?_)
  have X : Hx D (tX7 yT ++ (tTP yT_0 ++ (tX6 yT_1))) A s H1 locs1 (wX7 hT aT yT gT ++ (wTP (aT 0) aT_0 yT_0 gT_0 ++ (wX6 (aT 1) aT_1 yT_1 gT_1))) := Hx_after (isC := [0, 1]) (isR := [2, 3]) (pm := [2, 3, 0, 1]) (wr := wX6 (aT 1) aT_1 yT_1 gT_1) X ⟨rfl, rfl, by decide, by decide, rfl, by decide⟩ ht hB hk hS
  clear hk hS ht hB
  generalize H1 = H at X ⊢
  generalize locs1 = locs at X ⊢
  refine lv_bipush (v := (112 : Int32)) hx hb dX7_readNumber_67 (by decide) ?_
  refine lv_icmp_ne (tgt := 76) hx hb dX7_readNumber_69 (by decide) (fun c => ?_) (fun c => ?_)
  · replace hF := iF c hF
    refine lv_iconst (v := (0 : Int32)) hx hb dX7_readNumber_76 (by decide) ?_
    exact (k_X7_readNumber_77 l D hT aT yT aT_0 yT_0 aT_1 yT_1 n rec IH) C X (lv_sub hl [0, 1, 2] rfl) hF
  · replace hF := iT c hF
    refine lv_iconst (v := (1 : Int32)) hx hb dX7_readNumber_72 (by decide) ?_
    refine lv_goto (tgt := 77) hx hb dX7_readNumber_73 (by decide) ?_
    exact (k_X7_readNumber_77 l D hT aT yT aT_0 yT_0 aT_1 yT_1 n rec IH) C X (lv_sub hl [0, 1, 2] rfl) hF
theorem kL_X7_readNumber (l : Launch) (D : Dx) (hT : Nat) (aT : Nat → Nat) (yT : Nat → ClassId) (aT_0 : Nat → Nat) (yT_0 : Nat → ClassId) (aT_1 : Nat → Nat) (yT_1 : Nat → ClassId) (n : Nat) : ∀ k, SH_X7_readNumber l D hT aT yT aT_0 yT_0 aT_1 yT_1 (L_X7_readNumber n k)
  | 0 => fun _ _ _ h => by cases h
  | k + 1 => k_X7_readNumber_121 l D hT aT yT aT_0 yT_0 aT_1 yT_1 n _ (kL_X7_readNumber l D hT aT yT aT_0 yT_0 aT_1 yT_1 n k)
set_option maxHeartbeats 4000000 in
set_option maxRecDepth 100000 in
theorem c_X7_readNumber (l : Launch) (D : Dx) (hT : Nat) (aT : Nat → Nat) (yT : Nat → ClassId) (aT_0 : Nat → Nat) (yT_0 : Nat → ClassId) (aT_1 : Nat → Nat) (yT_1 : Nat → ClassId) (n : Nat) (gT : Gs) (gT_0 : Gs) (gT_1 : Gs) (q : Gs) (hF : f_X7_readNumber n gT gT_0 gT_1 = some q) (sz : Nat) : Met l yX7_readNumber (ws_ yX7_readNumber cX7_readNumber 7 none) R_X7_readNumber (PC D (tX7 yT ++ (tTP yT_0 ++ (tX6 yT_1))) [.ref hT] (wX7 hT aT yT gT ++ (wTP (aT 0) aT_0 yT_0 gT_0 ++ (wX6 (aT 1) aT_1 yT_1 gT_1))) sz) (QV D (va_A (wX7 hT aT yT gT ++ (wTP (aT 0) aT_0 yT_0 gT_0 ++ (wX6 (aT 1) aT_1 yT_1 gT_1))) sz) (wX7 hT aT yT q ++ (wTP (aT 0) aT_0 yT_0 gT_0 ++ (wX6 (aT 1) aT_1 yT_1 gT_1)))) 0 0 (va_A (wX7 hT aT yT gT ++ (wTP (aT 0) aT_0 yT_0 gT_0 ++ (wX6 (aT 1) aT_1 yT_1 gT_1))) sz) := by
  refine Met.ofW (cc := cX7_readNumber) (maxL := 7) (ret := none) (by decide) rfl ?_
  intro p e s m args below meth c s₁ B hml hv
  obtain ⟨rfl, hsz, hP, hK, hD, hN⟩ := hv
  subst hsz
  have C : Cx p s m _ meth c cX7_readNumber none 7 RX7 lw_all := Cx_of B hml
  have X := Hx_start hP hK hD hN
  obtain ⟨hx, hb, hr, -, hown, hts, hlk⟩ := id C
  generalize va_A (wX7 hT aT yT gT ++ (wTP (aT 0) aT_0 yT_0 gT_0 ++ (wX6 (aT 1) aT_1 yT_1 gT_1))) s.heap.size = A at X ⊢
  have hl := lv_entry ([.ref hT]) (n := 7) (Nat.le_of_ble_eq_true rfl)
  rw [lg_entry_eq]
  generalize (lg_sl ([.ref hT]) ++ List.replicate (7 - (lg_sl ([.ref hT])).length) Slot.unset).toArray = ls at hl ⊢
  have hl : lv_has ls 7 [(0, .ref hT)] := hl
  unfold f_X7_readNumber at hF
  refine lv_aload_n hx hb dX7_readNumber_0 rfl (lv_at hl 0 rfl) ?_
  refine lv_iconst (v := (1 : Int32)) hx hb dX7_readNumber_1 (by decide) ?_
  refine va_put (D := D.1) (ci := 7) (v := .int (1 : Int32)) (ty := .int) (C := RX7) (T := TX7) (N := 12) hx hb hts wi_X7 tyX7 tyX7_ok nmX7 hown X.1 X.2.1 X.2.2.1 X.2.2.2.1 0 rfl rfl 4 (by decide) (hts _ q2_239) (fun _ h9 => h9) rfl (by decide +kernel) rfl rfl (by rw [List.length_map, List.length_range]; decide) dX7_readNumber_2 (fun H locs hP hD hS => ?_)
  have X : Hx D (tX7 yT ++ (tTP yT_0 ++ (tX6 yT_1))) A s H locs (wX7 hT aT yT (sI gT 4 (1 : Int32)) ++ (wTP (aT 0) aT_0 yT_0 gT_0 ++ (wX6 (aT 1) aT_1 yT_1 gT_1))) := Hx_set X (set_l (by rw [wG_len (m := 1) rfl]; decide) (wG_sI (k := 4) rfl)) hP hD hS
  refine lv_aload_n hx hb dX7_readNumber_5 rfl (lv_at hl 0 rfl) ?_
  refine lv_lconst (v := (0 : Int64)) hx hb dX7_readNumber_6 (by decide) ?_
  refine va_put (D := D.1) (ci := 7) (v := .long (0 : Int64)) (ty := .long) (C := RX7) (T := TX7) (N := 12) hx hb hts wi_X7 tyX7 tyX7_ok nmX7 hown X.1 X.2.1 X.2.2.1 X.2.2.2.1 0 rfl rfl 8 (by decide) (hts _ q3_7) (fun _ h9 => h9) rfl (by decide +kernel) rfl rfl (by rw [List.length_map, List.length_range]; decide) dX7_readNumber_7 (fun H locs hP hD hS => ?_)
  have X : Hx D (tX7 yT ++ (tTP yT_0 ++ (tX6 yT_1))) A s H locs (wX7 hT aT yT (sL (sI gT 4 (1 : Int32)) 8 (0 : Int64)) ++ (wTP (aT 0) aT_0 yT_0 gT_0 ++ (wX6 (aT 1) aT_1 yT_1 gT_1))) := Hx_set X (set_l (by rw [wG_len (m := 1) rfl]; decide) (wG_sL (k := 8) rfl)) hP hD hS
  refine lv_aload_n hx hb dX7_readNumber_10 rfl (lv_at hl 0 rfl) ?_
  refine lv_iconst (v := (0 : Int32)) hx hb dX7_readNumber_11 (by decide) ?_
  refine va_put (D := D.1) (ci := 7) (v := .int (0 : Int32)) (ty := .int) (C := RX7) (T := TX7) (N := 12) hx hb hts wi_X7 tyX7 tyX7_ok nmX7 hown X.1 X.2.1 X.2.2.1 X.2.2.2.1 0 rfl rfl 10 (by decide) (hts _ q3_11) (fun _ h9 => h9) rfl (by decide +kernel) rfl rfl (by rw [List.length_map, List.length_range]; decide) dX7_readNumber_12 (fun H locs hP hD hS => ?_)
  have X : Hx D (tX7 yT ++ (tTP yT_0 ++ (tX6 yT_1))) A s H locs (wX7 hT aT yT (sI (sL (sI gT 4 (1 : Int32)) 8 (0 : Int64)) 10 (0 : Int32)) ++ (wTP (aT 0) aT_0 yT_0 gT_0 ++ (wX6 (aT 1) aT_1 yT_1 gT_1))) := Hx_set X (set_l (by rw [wG_len (m := 1) rfl]; decide) (wG_sI (k := 10) rfl)) hP hD hS
  refine lv_aload_n hx hb dX7_readNumber_15 rfl (lv_at hl 0 rfl) ?_
  refine lv_iconst (v := (0 : Int32)) hx hb dX7_readNumber_16 (by decide) ?_
  refine va_put (D := D.1) (ci := 7) (v := .int (0 : Int32)) (ty := .boolean) (C := RX7) (T := TX7) (N := 12) hx hb hts wi_X7 tyX7 tyX7_ok nmX7 hown X.1 X.2.1 X.2.2.1 X.2.2.2.1 0 rfl rfl 11 (by decide) (hts _ q3_12) (fun _ h9 => h9) rfl (by decide +kernel) rfl rfl (by rw [List.length_map, List.length_range]; decide) dX7_readNumber_17 (fun H locs hP hD hS => ?_)
  have X : Hx D (tX7 yT ++ (tTP yT_0 ++ (tX6 yT_1))) A s H locs (wX7 hT aT yT (sI (sI (sL (sI gT 4 (1 : Int32)) 8 (0 : Int64)) 10 (0 : Int32)) 11 (0 : Int32)) ++ (wTP (aT 0) aT_0 yT_0 gT_0 ++ (wX6 (aT 1) aT_1 yT_1 gT_1))) := Hx_set X (set_l (by rw [wG_len (m := 1) rfl]; decide) (wG_sI (k := 11) rfl)) hP hD hS
  refine lv_aload_n hx hb dX7_readNumber_20 rfl (lv_at hl 0 rfl) ?_
  refine lv_aload_n hx hb dX7_readNumber_21 rfl (lv_at hl 0 rfl) ?_
  refine va_get (D := D.1) (ci := 7) (v := .int (gI gT 3)) (C := RX7) (T := TX7) (N := 12) hx hb hts wi_X7 hown X.1 X.2.1 0 rfl rfl 3 (by decide) (hts _ q2_238) (fun _ h9 => h9) (fl_get (by decide)) dX7_readNumber_22 ?_
  obtain ⟨q_1, hc_2, hF⟩ := bnd_some hF
  refine cV_i (As := [.int (gI gT 3)]) (rest := []) C X (c_X7_readDigits l D hT aT yT aT_0 yT_0 n (sI (sI (sL (sI gT 4 (1 : Int32)) 8 (0 : Int64)) 10 (0 : Int32)) 11 (0 : Int32)) gT_0 (gI gT 3) q_1 hc_2 _) (cwV 1 hts (good_V q3_200 q3_202 q0_7 q1_12 q3_203) rfl rfl rfl (by decide +kernel) ⟨Nat.le_of_ble_eq_true rfl, Nat.le_of_ble_eq_true rfl⟩) (va_recv X.1 X.2.1 (ci := 7) (q0 := 0) rfl rfl) (X.1.sub (tys' := tX7 yT ++ (tTP yT_0)) [0] rfl) (X.2.1.sub (ws' := wX7 hT aT yT (sI (sI (sL (sI gT 4 (1 : Int32)) 8 (0 : Int64)) 10 (0 : Int32)) 11 (0 : Int32)) ++ (wTP (aT 0) aT_0 yT_0 gT_0)) [0, 1] rfl) (X.2.2.1.sub (ws' := wX7 hT aT yT (sI (sI (sL (sI gT 4 (1 : Int32)) 8 (0 : Int64)) 10 (0 : Int32)) 11 (0 : Int32)) ++ (wTP (aT 0) aT_0 yT_0 gT_0)) [0, 1] (by decide) rfl) (free_of (wC := wX7 hT aT yT (sI (sI (sL (sI gT 4 (1 : Int32)) 8 (0 : Int64)) 10 (0 : Int32)) 11 (0 : Int32)) ++ (wTP (aT 0) aT_0 yT_0 gT_0)) (isC := [0, 1]) X rfl) hl.1 rfl rfl (Nat.le_of_ble_eq_true rfl) dX7_readNumber_25 ⟨Nat.le_of_ble_eq_true rfl, Nat.le_of_ble_eq_true rfl⟩ (fun t H1 locs1 ht hB hk hS => ?_)
  have X : Hx D (tX7 yT ++ (tTP yT_0 ++ (tX6 yT_1))) A s H1 locs1 (wX7 hT aT yT q_1.2 ++ (wTP (aT 0) aT_0 yT_0 gT_0 ++ (wX6 (aT 1) aT_1 yT_1 gT_1))) := Hx_after (isC := [0, 1]) (isR := [2, 3]) (pm := [2, 3, 0, 1]) (wr := wX6 (aT 1) aT_1 yT_1 gT_1) X ⟨rfl, rfl, by decide, by decide, rfl, by decide⟩ ht hB hk hS
  clear hk hS ht hB
  generalize H1 = H at X ⊢
  generalize locs1 = locs at X ⊢
  refine lv_istore_n (lv' := [(1, .int q_1.1), (0, .ref hT)]) hx hb dX7_readNumber_28 rfl hl (by decide) rfl (fun ls hl => ?_)
  refine lv_iconst (v := (0 : Int32)) hx hb dX7_readNumber_29 (by decide) ?_
  refine lv_istore_n (lv' := [(2, .int (0 : Int32)), (1, .int q_1.1), (0, .ref hT)]) hx hb dX7_readNumber_30 rfl hl (by decide) rfl (fun ls hl => ?_)
  refine lv_aload_n hx hb dX7_readNumber_31 rfl (lv_at hl 2 rfl) ?_
  refine lv_iload_n hx hb dX7_readNumber_32 rfl (lv_at hl 1 rfl) ?_
  obtain ⟨q_3, hc_4, hF⟩ := bnd_some hF
  refine cV_i (As := [.int q_1.1]) (rest := []) C X (c_X7_byteAt l D hT aT yT aT_0 yT_0 q_1.2 gT_0 q_1.1 q_3 hc_4 _) (cwV 1 hts (good_V q3_134 q3_136 q0_3 q1_12 q3_137) rfl rfl rfl (by decide +kernel) ⟨Nat.le_of_ble_eq_true rfl, Nat.le_of_ble_eq_true rfl⟩) (va_recv X.1 X.2.1 (ci := 7) (q0 := 0) rfl rfl) (X.1.sub (tys' := tX7 yT ++ (tTP yT_0)) [0] rfl) (X.2.1.sub (ws' := wX7 hT aT yT q_1.2 ++ (wTP (aT 0) aT_0 yT_0 gT_0)) [0, 1] rfl) (X.2.2.1.sub (ws' := wX7 hT aT yT q_1.2 ++ (wTP (aT 0) aT_0 yT_0 gT_0)) [0, 1] (by decide) rfl) (free_of (wC := wX7 hT aT yT q_1.2 ++ (wTP (aT 0) aT_0 yT_0 gT_0)) (isC := [0, 1]) X rfl) hl.1 rfl rfl (Nat.le_of_ble_eq_true rfl) dX7_readNumber_33 ⟨Nat.le_of_ble_eq_true rfl, Nat.le_of_ble_eq_true rfl⟩ (fun t H1 locs1 ht hB hk hS => ?_)
  have X : Hx D (tX7 yT ++ (tTP yT_0 ++ (tX6 yT_1))) A s H1 locs1 (wX7 hT aT yT q_1.2 ++ (wTP (aT 0) aT_0 yT_0 gT_0 ++ (wX6 (aT 1) aT_1 yT_1 gT_1))) := Hx_after (isC := [0, 1]) (isR := [2, 3]) (pm := [2, 3, 0, 1]) (wr := wX6 (aT 1) aT_1 yT_1 gT_1) X ⟨rfl, rfl, by decide, by decide, rfl, by decide⟩ ht hB hk hS
  clear hk hS ht hB
  generalize H1 = H at X ⊢
  generalize locs1 = locs at X ⊢
  refine lv_bipush (v := (46 : Int32)) hx hb dX7_readNumber_36 (by decide) ?_
  refine lv_icmp_ne (tgt := 62) hx hb dX7_readNumber_38 (by decide) (fun c => ?_) (fun c => ?_)
  · replace hF := iF c hF
    exact (k_X7_readNumber_62 l D hT aT yT aT_0 yT_0 aT_1 yT_1 n (L_X7_readNumber n n) (kL_X7_readNumber l D hT aT yT aT_0 yT_0 aT_1 yT_1 n n)) C X (lv_sub hl [2, 1, 0] rfl) hF
  · replace hF := iT c hF
    refine lv_iload_n hx hb dX7_readNumber_41 rfl (lv_at hl 1 rfl) ?_
    refine lv_istore_n (lv' := [(3, .int q_1.1), (2, .int (0 : Int32)), (1, .int q_1.1), (0, .ref hT)]) hx hb dX7_readNumber_42 rfl hl (by decide) rfl (fun ls hl => ?_)
    refine lv_aload_n hx hb dX7_readNumber_43 rfl (lv_at hl 3 rfl) ?_
    refine lv_iload_n hx hb dX7_readNumber_44 rfl (lv_at hl 0 rfl) ?_
    refine lv_iconst (v := (1 : Int32)) hx hb dX7_readNumber_45 (by decide) ?_
    refine lv_iadd hx hb dX7_readNumber_46 ?_
    obtain ⟨q_27, hc_28, hF⟩ := bnd_some hF
    refine cV_i (As := [.int (q_1.1 + (1 : Int32))]) (rest := []) C X (c_X7_readDigits l D hT aT yT aT_0 yT_0 n q_1.2 gT_0 (q_1.1 + (1 : Int32)) q_27 hc_28 _) (cwV 1 hts (good_V q3_200 q3_202 q0_7 q1_12 q3_203) rfl rfl rfl (by decide +kernel) ⟨Nat.le_of_ble_eq_true rfl, Nat.le_of_ble_eq_true rfl⟩) (va_recv X.1 X.2.1 (ci := 7) (q0 := 0) rfl rfl) (X.1.sub (tys' := tX7 yT ++ (tTP yT_0)) [0] rfl) (X.2.1.sub (ws' := wX7 hT aT yT q_1.2 ++ (wTP (aT 0) aT_0 yT_0 gT_0)) [0, 1] rfl) (X.2.2.1.sub (ws' := wX7 hT aT yT q_1.2 ++ (wTP (aT 0) aT_0 yT_0 gT_0)) [0, 1] (by decide) rfl) (free_of (wC := wX7 hT aT yT q_1.2 ++ (wTP (aT 0) aT_0 yT_0 gT_0)) (isC := [0, 1]) X rfl) hl.1 rfl rfl (Nat.le_of_ble_eq_true rfl) dX7_readNumber_47 ⟨Nat.le_of_ble_eq_true rfl, Nat.le_of_ble_eq_true rfl⟩ (fun t H1 locs1 ht hB hk hS => ?_)
    have X : Hx D (tX7 yT ++ (tTP yT_0 ++ (tX6 yT_1))) A s H1 locs1 (wX7 hT aT yT q_27.2 ++ (wTP (aT 0) aT_0 yT_0 gT_0 ++ (wX6 (aT 1) aT_1 yT_1 gT_1))) := Hx_after (isC := [0, 1]) (isR := [2, 3]) (pm := [2, 3, 0, 1]) (wr := wX6 (aT 1) aT_1 yT_1 gT_1) X ⟨rfl, rfl, by decide, by decide, rfl, by decide⟩ ht hB hk hS
    clear hk hS ht hB
    generalize H1 = H at X ⊢
    generalize locs1 = locs at X ⊢
    refine lv_istore_n (lv' := [(1, .int q_27.1), (3, .int q_1.1), (2, .int (0 : Int32)), (0, .ref hT)]) hx hb dX7_readNumber_50 rfl hl (by decide) rfl (fun ls hl => ?_)
    refine lv_iload_n hx hb dX7_readNumber_51 rfl (lv_at hl 0 rfl) ?_
    refine lv_iload_n hx hb dX7_readNumber_52 rfl (lv_at hl 1 rfl) ?_
    refine lv_isub hx hb dX7_readNumber_53 ?_
    refine lv_iconst (v := (1 : Int32)) hx hb dX7_readNumber_54 (by decide) ?_
    refine lv_isub hx hb dX7_readNumber_55 ?_
    refine lv_istore_n (lv' := [(2, .int ((q_27.1 - q_1.1) - (1 : Int32))), (1, .int q_27.1), (3, .int q_1.1), (0, .ref hT)]) hx hb dX7_readNumber_56 rfl hl (by decide) rfl (fun ls hl => ?_)
    refine lv_iload_n hx hb dX7_readNumber_57 rfl (lv_at hl 0 rfl) ?_
    refine lv_if_ne (tgt := 62) hx hb dX7_readNumber_58 (by decide) (fun c => ?_) (fun c => ?_)
    · replace hF := iF c hF
      exact (k_X7_readNumber_62 l D hT aT yT aT_0 yT_0 aT_1 yT_1 n (L_X7_readNumber n n) (kL_X7_readNumber l D hT aT yT aT_0 yT_0 aT_1 yT_1 n n)) C X (lv_sub hl [3, 1, 0] rfl) hF
    · replace hF := iT c hF
      have hq := Option.some.inj hF
      subst hq
      exact rt_v C X dX7_readNumber_61

/-! ### X7_advance -/
theorem dX7_advance_0 : decode cX7_advance 0 = .ok (.aload_n 0, 1) := by decide +kernel
theorem dX7_advance_1 : decode cX7_advance 1 = .ok (.getfield 15, 3) := by decide +kernel
theorem dX7_advance_4 : decode cX7_advance 4 = .ok (.aload_n 0, 1) := by decide +kernel
theorem dX7_advance_5 : decode cX7_advance 5 = .ok (.getfield 9, 3) := by decide +kernel
theorem dX7_advance_8 : decode cX7_advance 8 = .ok (.if_icmp .ge 30, 3) := by decide +kernel
theorem dX7_advance_11 : decode cX7_advance 11 = .ok (.aload_n 0, 1) := by decide +kernel
theorem dX7_advance_12 : decode cX7_advance 12 = .ok (.aload_n 0, 1) := by decide +kernel
theorem dX7_advance_13 : decode cX7_advance 13 = .ok (.getfield 15, 3) := by decide +kernel
theorem dX7_advance_16 : decode cX7_advance 16 = .ok (.invokevirtual 62, 3) := by decide +kernel
theorem dX7_advance_19 : decode cX7_advance 19 = .ok (.invokestatic 66, 3) := by decide +kernel
theorem dX7_advance_22 : decode cX7_advance 22 = .ok (.ifCond .eq 16, 3) := by decide +kernel
theorem dX7_advance_25 : decode cX7_advance 25 = .ok (.aload_n 0, 1) := by decide +kernel
theorem dX7_advance_26 : decode cX7_advance 26 = .ok (.dup, 1) := by decide +kernel
theorem dX7_advance_27 : decode cX7_advance 27 = .ok (.getfield 15, 3) := by decide +kernel
theorem dX7_advance_30 : decode cX7_advance 30 = .ok (.iconst 1, 1) := by decide +kernel
theorem dX7_advance_31 : decode cX7_advance 31 = .ok (.iadd, 1) := by decide +kernel
theorem dX7_advance_32 : decode cX7_advance 32 = .ok (.putfield 15, 3) := by decide +kernel
theorem dX7_advance_35 : decode cX7_advance 35 = .ok (.goto (-35), 3) := by decide +kernel
theorem dX7_advance_38 : decode cX7_advance 38 = .ok (.aload_n 0, 1) := by decide +kernel
theorem dX7_advance_39 : decode cX7_advance 39 = .ok (.aload_n 0, 1) := by decide +kernel
theorem dX7_advance_40 : decode cX7_advance 40 = .ok (.getfield 15, 3) := by decide +kernel
theorem dX7_advance_43 : decode cX7_advance 43 = .ok (.putfield 21, 3) := by decide +kernel
theorem dX7_advance_46 : decode cX7_advance 46 = .ok (.aload_n 0, 1) := by decide +kernel
theorem dX7_advance_47 : decode cX7_advance 47 = .ok (.iconst 0, 1) := by decide +kernel
theorem dX7_advance_48 : decode cX7_advance 48 = .ok (.putfield 24, 3) := by decide +kernel
theorem dX7_advance_51 : decode cX7_advance 51 = .ok (.aload_n 0, 1) := by decide +kernel
theorem dX7_advance_52 : decode cX7_advance 52 = .ok (.aload_n 0, 1) := by decide +kernel
theorem dX7_advance_53 : decode cX7_advance 53 = .ok (.getfield 15, 3) := by decide +kernel
theorem dX7_advance_56 : decode cX7_advance 56 = .ok (.invokevirtual 62, 3) := by decide +kernel
theorem dX7_advance_59 : decode cX7_advance 59 = .ok (.istore_n 1, 1) := by decide +kernel
theorem dX7_advance_60 : decode cX7_advance 60 = .ok (.iload_n 1, 1) := by decide +kernel
theorem dX7_advance_61 : decode cX7_advance 61 = .ok (.iconst (-1), 1) := by decide +kernel
theorem dX7_advance_62 : decode cX7_advance 62 = .ok (.if_icmp .ne 11, 3) := by decide +kernel
theorem dX7_advance_65 : decode cX7_advance 65 = .ok (.aload_n 0, 1) := by decide +kernel
theorem dX7_advance_66 : decode cX7_advance 66 = .ok (.iconst 0, 1) := by decide +kernel
theorem dX7_advance_67 : decode cX7_advance 67 = .ok (.putfield 18, 3) := by decide +kernel
theorem dX7_advance_70 : decode cX7_advance 70 = .ok (.goto 36, 3) := by decide +kernel
theorem dX7_advance_73 : decode cX7_advance 73 = .ok (.iload_n 1, 1) := by decide +kernel
theorem dX7_advance_74 : decode cX7_advance 74 = .ok (.invokestatic 70, 3) := by decide +kernel
theorem dX7_advance_77 : decode cX7_advance 77 = .ok (.ifCond .eq 10, 3) := by decide +kernel
theorem dX7_advance_80 : decode cX7_advance 80 = .ok (.aload_n 0, 1) := by decide +kernel
theorem dX7_advance_81 : decode cX7_advance 81 = .ok (.invokevirtual 73, 3) := by decide +kernel
theorem dX7_advance_84 : decode cX7_advance 84 = .ok (.goto 22, 3) := by decide +kernel
theorem dX7_advance_87 : decode cX7_advance 87 = .ok (.iload_n 1, 1) := by decide +kernel
theorem dX7_advance_88 : decode cX7_advance 88 = .ok (.invokestatic 76, 3) := by decide +kernel
theorem dX7_advance_91 : decode cX7_advance 91 = .ok (.ifCond .eq 10, 3) := by decide +kernel
theorem dX7_advance_94 : decode cX7_advance 94 = .ok (.aload_n 0, 1) := by decide +kernel
theorem dX7_advance_95 : decode cX7_advance 95 = .ok (.invokevirtual 79, 3) := by decide +kernel
theorem dX7_advance_98 : decode cX7_advance 98 = .ok (.goto 8, 3) := by decide +kernel
theorem dX7_advance_101 : decode cX7_advance 101 = .ok (.aload_n 0, 1) := by decide +kernel
theorem dX7_advance_102 : decode cX7_advance 102 = .ok (.iload_n 1, 1) := by decide +kernel
theorem dX7_advance_103 : decode cX7_advance 103 = .ok (.invokevirtual 82, 3) := by decide +kernel
theorem dX7_advance_106 : decode cX7_advance 106 = .ok (.return_, 1) := by decide +kernel
abbrev R_X7_advance : Room := ({ frames := 6, cells := 0, slots := 0, locals := 154 } : Room)
def b_X7_advance_38 (n : Nat) (rec : (Gs → Gs → Gs → Option (Gs))) (gT : Gs) (gT_0 : Gs) (gT_1 : Gs) : Option (Gs) :=
  bnd (f_X7_byteAt (sI (sI gT 5 (gI gT 3)) 6 (0 : Int32)) gT_0 (gI gT 3)) (fun q_1 => if q_1 = (-1 : Int32) then (some (sI (sI (sI gT 5 (gI gT 3)) 6 (0 : Int32)) 4 (0 : Int32))) else (bnd (f_X7_isLetter q_1) (fun q_3 => if q_3 = 0 then (bnd (f_X7_isDigit q_1) (fun q_5 => if q_5 = 0 then (bnd (f_X7_readSign n (sI (sI gT 5 (gI gT 3)) 6 (0 : Int32)) gT_0 q_1) (fun q_7 => some q_7)) else (bnd (f_X7_readNumber n (sI (sI gT 5 (gI gT 3)) 6 (0 : Int32)) gT_0 gT_1) (fun q_9 => some q_9)))) else (bnd (f_X7_readWord n (sI (sI gT 5 (gI gT 3)) 6 (0 : Int32)) gT_0) (fun q_11 => some q_11)))))
def h_X7_advance_0 (n : Nat) (rec : (Gs → Gs → Gs → Option (Gs))) (gT : Gs) (gT_0 : Gs) (gT_1 : Gs) : Option (Gs) :=
  if (gI gT 2) ≤ (gI gT 3) then (b_X7_advance_38 n rec gT gT_0 gT_1) else (bnd (f_X7_byteAt gT gT_0 (gI gT 3)) (fun q_13 => bnd (f_X7_isBlank q_13) (fun q_15 => if q_15 = 0 then (b_X7_advance_38 n rec gT gT_0 gT_1) else (rec (sI gT 3 ((gI gT 3) + (1 : Int32))) gT_0 gT_1))))
def L_X7_advance (n : Nat) : Nat → (Gs → Gs → Gs → Option (Gs))
  | 0 => ((fun _ _ _ => none))
  | k + 1 => (h_X7_advance_0 n (L_X7_advance n k))
def f_X7_advance (n : Nat) (gT : Gs) (gT_0 : Gs) (gT_1 : Gs) : Option (Gs) :=
  (L_X7_advance n n) gT gT_0 gT_1
def S_X7_advance_38 (l : Launch) (D : Dx) (hT : Nat) (aT : Nat → Nat) (yT : Nat → ClassId) (aT_0 : Nat → Nat) (yT_0 : Nat → ClassId) (aT_1 : Nat → Nat) (yT_1 : Nat → ClassId) (fn : Gs → Gs → Gs → Option (Gs)) : Prop :=
  ∀ {p : Program} {e : Env} {s : State} {m : MethodId} {args : Array Value} {below : List Frame} {meth : Method} {c : Code} {H : Heap} {locs : List Loc} {A : Nat → Prop} {ls : Array Slot} {gT : Gs} {gT_0 : Gs} {gT_1 : Gs} {q : Gs}, Cx p s m args meth c cX7_advance none 2 RX7 lw_all → Hx D (tX7 yT ++ (tTP yT_0 ++ (tX6 yT_1))) A s H locs (wX7 hT aT yT gT ++ (wTP (aT 0) aT_0 yT_0 gT_0 ++ (wX6 (aT 1) aT_1 yT_1 gT_1))) → lv_has ls 2 [(0, .ref hT)] → fn gT gT_0 gT_1 = some q → W p l e R_X7_advance s m args below meth c H locs 0 0 (MQ below (QV D A (wX7 hT aT yT q ++ (wTP (aT 0) aT_0 yT_0 gT_0 ++ (wX6 (aT 1) aT_1 yT_1 gT_1)))) args s 0 0 A) (F0 m 38 ls [])
def S_X7_advance_0 (l : Launch) (D : Dx) (hT : Nat) (aT : Nat → Nat) (yT : Nat → ClassId) (aT_0 : Nat → Nat) (yT_0 : Nat → ClassId) (aT_1 : Nat → Nat) (yT_1 : Nat → ClassId) (fn : Gs → Gs → Gs → Option (Gs)) : Prop :=
  ∀ {p : Program} {e : Env} {s : State} {m : MethodId} {args : Array Value} {below : List Frame} {meth : Method} {c : Code} {H : Heap} {locs : List Loc} {A : Nat → Prop} {ls : Array Slot} {gT : Gs} {gT_0 : Gs} {gT_1 : Gs} {q : Gs}, Cx p s m args meth c cX7_advance none 2 RX7 lw_all → Hx D (tX7 yT ++ (tTP yT_0 ++ (tX6 yT_1))) A s H locs (wX7 hT aT yT gT ++ (wTP (aT 0) aT_0 yT_0 gT_0 ++ (wX6 (aT 1) aT_1 yT_1 gT_1))) → lv_has ls 2 [(0, .ref hT)] → fn gT gT_0 gT_1 = some q → W p l e R_X7_advance s m args below meth c H locs 0 0 (MQ below (QV D A (wX7 hT aT yT q ++ (wTP (aT 0) aT_0 yT_0 gT_0 ++ (wX6 (aT 1) aT_1 yT_1 gT_1)))) args s 0 0 A) (F0 m 0 ls [])
def SH_X7_advance (l : Launch) (D : Dx) (hT : Nat) (aT : Nat → Nat) (yT : Nat → ClassId) (aT_0 : Nat → Nat) (yT_0 : Nat → ClassId) (aT_1 : Nat → Nat) (yT_1 : Nat → ClassId) (rec : (Gs → Gs → Gs → Option (Gs))) : Prop := S_X7_advance_0 l D hT aT yT aT_0 yT_0 aT_1 yT_1 rec
set_option maxHeartbeats 4000000 in
set_option maxRecDepth 100000 in
theorem k_X7_advance_38 (l : Launch) (D : Dx) (hT : Nat) (aT : Nat → Nat) (yT : Nat → ClassId) (aT_0 : Nat → Nat) (yT_0 : Nat → ClassId) (aT_1 : Nat → Nat) (yT_1 : Nat → ClassId) (n : Nat) (rec : (Gs → Gs → Gs → Option (Gs))) (IH : SH_X7_advance l D hT aT yT aT_0 yT_0 aT_1 yT_1 rec) : S_X7_advance_38 l D hT aT yT aT_0 yT_0 aT_1 yT_1 (b_X7_advance_38 n rec) := by
  intro p e s m args below meth c H locs A ls gT gT_0 gT_1 q C X hl hF
  obtain ⟨hx, hb, hr, hml, hown, hts, hlk⟩ := id C
  unfold b_X7_advance_38 at hF
  refine lv_aload_n hx hb dX7_advance_38 rfl (lv_at hl 0 rfl) ?_
  refine lv_aload_n hx hb dX7_advance_39 rfl (lv_at hl 0 rfl) ?_
  refine va_get (D := D.1) (ci := 7) (v := .int (gI gT 3)) (C := RX7) (T := TX7) (N := 12) hx hb hts wi_X7 hown X.1 X.2.1 0 rfl rfl 3 (by decide) (hts _ q2_238) (fun _ h9 => h9) (fl_get (by decide)) dX7_advance_40 ?_
  refine va_put (D := D.1) (ci := 7) (v := .int (gI gT 3)) (ty := .int) (C := RX7) (T := TX7) (N := 12) hx hb hts wi_X7 tyX7 tyX7_ok nmX7 hown X.1 X.2.1 X.2.2.1 X.2.2.2.1 0 rfl rfl 5 (by decide) (hts _ q3_1) (fun _ h9 => h9) rfl (by decide +kernel) rfl rfl (by rw [List.length_map, List.length_range]; decide) dX7_advance_43 (fun H locs hP hD hS => ?_)
  have X : Hx D (tX7 yT ++ (tTP yT_0 ++ (tX6 yT_1))) A s H locs (wX7 hT aT yT (sI gT 5 (gI gT 3)) ++ (wTP (aT 0) aT_0 yT_0 gT_0 ++ (wX6 (aT 1) aT_1 yT_1 gT_1))) := Hx_set X (set_l (by rw [wG_len (m := 1) rfl]; decide) (wG_sI (k := 5) rfl)) hP hD hS
  refine lv_aload_n hx hb dX7_advance_46 rfl (lv_at hl 0 rfl) ?_
  refine lv_iconst (v := (0 : Int32)) hx hb dX7_advance_47 (by decide) ?_
  refine va_put (D := D.1) (ci := 7) (v := .int (0 : Int32)) (ty := .int) (C := RX7) (T := TX7) (N := 12) hx hb hts wi_X7 tyX7 tyX7_ok nmX7 hown X.1 X.2.1 X.2.2.1 X.2.2.2.1 0 rfl rfl 6 (by decide) (hts _ q3_3) (fun _ h9 => h9) rfl (by decide +kernel) rfl rfl (by rw [List.length_map, List.length_range]; decide) dX7_advance_48 (fun H locs hP hD hS => ?_)
  have X : Hx D (tX7 yT ++ (tTP yT_0 ++ (tX6 yT_1))) A s H locs (wX7 hT aT yT (sI (sI gT 5 (gI gT 3)) 6 (0 : Int32)) ++ (wTP (aT 0) aT_0 yT_0 gT_0 ++ (wX6 (aT 1) aT_1 yT_1 gT_1))) := Hx_set X (set_l (by rw [wG_len (m := 1) rfl]; decide) (wG_sI (k := 6) rfl)) hP hD hS
  refine lv_aload_n hx hb dX7_advance_51 rfl (lv_at hl 0 rfl) ?_
  refine lv_aload_n hx hb dX7_advance_52 rfl (lv_at hl 0 rfl) ?_
  refine va_get (D := D.1) (ci := 7) (v := .int (gI gT 3)) (C := RX7) (T := TX7) (N := 12) hx hb hts wi_X7 hown X.1 X.2.1 0 rfl rfl 3 (by decide) (hts _ q2_238) (fun _ h9 => h9) (fl_get (by decide)) dX7_advance_53 ?_
  obtain ⟨q_1, hc_2, hF⟩ := bnd_some hF
  refine cV_i (As := [.int (gI gT 3)]) (rest := []) C X (c_X7_byteAt l D hT aT yT aT_0 yT_0 (sI (sI gT 5 (gI gT 3)) 6 (0 : Int32)) gT_0 (gI gT 3) q_1 hc_2 _) (cwV 1 hts (good_V q3_134 q3_136 q0_3 q1_12 q3_137) rfl rfl rfl (by decide +kernel) ⟨Nat.le_of_ble_eq_true rfl, Nat.le_of_ble_eq_true rfl⟩) (va_recv X.1 X.2.1 (ci := 7) (q0 := 0) rfl rfl) (X.1.sub (tys' := tX7 yT ++ (tTP yT_0)) [0] rfl) (X.2.1.sub (ws' := wX7 hT aT yT (sI (sI gT 5 (gI gT 3)) 6 (0 : Int32)) ++ (wTP (aT 0) aT_0 yT_0 gT_0)) [0, 1] rfl) (X.2.2.1.sub (ws' := wX7 hT aT yT (sI (sI gT 5 (gI gT 3)) 6 (0 : Int32)) ++ (wTP (aT 0) aT_0 yT_0 gT_0)) [0, 1] (by decide) rfl) (free_of (wC := wX7 hT aT yT (sI (sI gT 5 (gI gT 3)) 6 (0 : Int32)) ++ (wTP (aT 0) aT_0 yT_0 gT_0)) (isC := [0, 1]) X rfl) hl.1 rfl rfl (Nat.le_of_ble_eq_true rfl) dX7_advance_56 ⟨Nat.le_of_ble_eq_true rfl, Nat.le_of_ble_eq_true rfl⟩ (fun t H1 locs1 ht hB hk hS => ?_)
  have X : Hx D (tX7 yT ++ (tTP yT_0 ++ (tX6 yT_1))) A s H1 locs1 (wX7 hT aT yT (sI (sI gT 5 (gI gT 3)) 6 (0 : Int32)) ++ (wTP (aT 0) aT_0 yT_0 gT_0 ++ (wX6 (aT 1) aT_1 yT_1 gT_1))) := Hx_after (isC := [0, 1]) (isR := [2, 3]) (pm := [2, 3, 0, 1]) (wr := wX6 (aT 1) aT_1 yT_1 gT_1) X ⟨rfl, rfl, by decide, by decide, rfl, by decide⟩ ht hB hk hS
  clear hk hS ht hB
  generalize H1 = H at X ⊢
  generalize locs1 = locs at X ⊢
  refine lv_istore_n (lv' := [(1, .int q_1), (0, .ref hT)]) hx hb dX7_advance_59 rfl hl (by decide) rfl (fun ls hl => ?_)
  refine lv_iload_n hx hb dX7_advance_60 rfl (lv_at hl 0 rfl) ?_
  refine lv_iconst (v := (-1 : Int32)) hx hb dX7_advance_61 (by decide) ?_
  refine lv_icmp_ne (tgt := 73) hx hb dX7_advance_62 (by decide) (fun c => ?_) (fun c => ?_)
  · replace hF := iF c hF
    refine lv_iload_n hx hb dX7_advance_73 rfl (lv_at hl 0 rfl) ?_
    obtain ⟨q_3, hc_4, hF⟩ := bnd_some hF
    refine cS_i (As := [.int q_1]) (rest := []) C X (c_X7_isLetter l D  q_1 q_3 hc_4 _) (va_cwS 1 hts (good_S q3_141 q3_142 q1_12 q3_143) rfl rfl rfl (by decide +kernel) ⟨Nat.le_of_ble_eq_true rfl, Nat.le_of_ble_eq_true rfl⟩) (eK X) eP (eD (A := A)) (eF X) hl.1 rfl rfl (Nat.le_of_ble_eq_true rfl) dX7_advance_74 ⟨Nat.le_of_ble_eq_true rfl, Nat.le_of_ble_eq_true rfl⟩ (fun t H1 locs1 ht hB hk hS => ?_)
    have X := Hx_after_none X hk hS
    clear hk hS ht hB
    generalize H1 = H at X ⊢
    generalize locs1 = locs at X ⊢
    refine lv_if_eq (tgt := 87) hx hb dX7_advance_77 (by decide) (fun c => ?_) (fun c => ?_)
    · replace hF := iT c hF
      refine lv_iload_n hx hb dX7_advance_87 rfl (lv_at hl 0 rfl) ?_
      obtain ⟨q_5, hc_6, hF⟩ := bnd_some hF
      refine cS_i (As := [.int q_1]) (rest := []) C X (c_X7_isDigit l D  q_1 q_5 hc_6 _) (va_cwS 1 hts (good_S q3_148 q3_149 q1_12 q3_150) rfl rfl rfl (by decide +kernel) ⟨Nat.le_of_ble_eq_true rfl, Nat.le_of_ble_eq_true rfl⟩) (eK X) eP (eD (A := A)) (eF X) hl.1 rfl rfl (Nat.le_of_ble_eq_true rfl) dX7_advance_88 ⟨Nat.le_of_ble_eq_true rfl, Nat.le_of_ble_eq_true rfl⟩ (fun t H1 locs1 ht hB hk hS => ?_)
      have X := Hx_after_none X hk hS
      clear hk hS ht hB
      generalize H1 = H at X ⊢
      generalize locs1 = locs at X ⊢
      refine lv_if_eq (tgt := 101) hx hb dX7_advance_91 (by decide) (fun c => ?_) (fun c => ?_)
      · replace hF := iT c hF
        refine lv_aload_n hx hb dX7_advance_101 rfl (lv_at hl 1 rfl) ?_
        refine lv_iload_n hx hb dX7_advance_102 rfl (lv_at hl 0 rfl) ?_
        obtain ⟨q_7, hc_8, hF⟩ := bnd_some hF
        refine cV_v (As := [.int q_1]) (rest := []) C X (c_X7_readSign l D hT aT yT aT_0 yT_0 n (sI (sI gT 5 (gI gT 3)) 6 (0 : Int32)) gT_0 q_1 q_7 hc_8 _) (cwV 1 hts (good_V q3_225 q3_227 q0_10 q1_12 q3_228) rfl rfl rfl (by decide +kernel) ⟨Nat.le_of_ble_eq_true rfl, Nat.le_of_ble_eq_true rfl⟩) (va_recv X.1 X.2.1 (ci := 7) (q0 := 0) rfl rfl) (X.1.sub (tys' := tX7 yT ++ (tTP yT_0)) [0] rfl) (X.2.1.sub (ws' := wX7 hT aT yT (sI (sI gT 5 (gI gT 3)) 6 (0 : Int32)) ++ (wTP (aT 0) aT_0 yT_0 gT_0)) [0, 1] rfl) (X.2.2.1.sub (ws' := wX7 hT aT yT (sI (sI gT 5 (gI gT 3)) 6 (0 : Int32)) ++ (wTP (aT 0) aT_0 yT_0 gT_0)) [0, 1] (by decide) rfl) (free_of (wC := wX7 hT aT yT (sI (sI gT 5 (gI gT 3)) 6 (0 : Int32)) ++ (wTP (aT 0) aT_0 yT_0 gT_0)) (isC := [0, 1]) X rfl) hl.1 rfl rfl (Nat.le_of_ble_eq_true rfl) dX7_advance_103 ⟨Nat.le_of_ble_eq_true rfl, Nat.le_of_ble_eq_true rfl⟩ (fun t H1 locs1 ht hB hk hS => ?_)
        have X : Hx D (tX7 yT ++ (tTP yT_0 ++ (tX6 yT_1))) A s H1 locs1 (wX7 hT aT yT q_7 ++ (wTP (aT 0) aT_0 yT_0 gT_0 ++ (wX6 (aT 1) aT_1 yT_1 gT_1))) := Hx_after (isC := [0, 1]) (isR := [2, 3]) (pm := [2, 3, 0, 1]) (wr := wX6 (aT 1) aT_1 yT_1 gT_1) X ⟨rfl, rfl, by decide, by decide, rfl, by decide⟩ ht hB hk hS
        clear hk hS ht hB
        generalize H1 = H at X ⊢
        generalize locs1 = locs at X ⊢
        have hq := Option.some.inj hF
        subst hq
        exact rt_v C X dX7_advance_106
      · replace hF := iF c hF
        refine lv_aload_n hx hb dX7_advance_94 rfl (lv_at hl 1 rfl) ?_
        obtain ⟨q_9, hc_10, hF⟩ := bnd_some hF
        refine cV_v (As := []) (rest := []) C X (c_X7_readNumber l D hT aT yT aT_0 yT_0 aT_1 yT_1 n (sI (sI gT 5 (gI gT 3)) 6 (0 : Int32)) gT_0 gT_1 q_9 hc_10 _) (cwV 0 hts (good_V q3_196 q3_198 q0_6 q1_12 q3_199) rfl rfl rfl (by decide +kernel) ⟨Nat.le_of_ble_eq_true rfl, Nat.le_of_ble_eq_true rfl⟩) (va_recv X.1 X.2.1 (ci := 7) (q0 := 0) rfl rfl) X.1 X.2.1 X.2.2.1 (free_all X) hl.1 rfl rfl (Nat.le_of_ble_eq_true rfl) dX7_advance_95 ⟨Nat.le_of_ble_eq_true rfl, Nat.le_of_ble_eq_true rfl⟩ (fun t H1 locs1 ht hB hk hS => ?_)
        have X : Hx D (tX7 yT ++ (tTP yT_0 ++ (tX6 yT_1))) A s H1 locs1 (wX7 hT aT yT q_9 ++ (wTP (aT 0) aT_0 yT_0 gT_0 ++ (wX6 (aT 1) aT_1 yT_1 gT_1))) := Hx_after_all X ht hB hS
        clear hk hS ht hB
        generalize H1 = H at X ⊢
        generalize locs1 = locs at X ⊢
        refine lv_goto (tgt := 106) hx hb dX7_advance_98 (by decide) ?_
        have hq := Option.some.inj hF
        subst hq
        exact rt_v C X dX7_advance_106
    · replace hF := iF c hF
      refine lv_aload_n hx hb dX7_advance_80 rfl (lv_at hl 1 rfl) ?_
      obtain ⟨q_11, hc_12, hF⟩ := bnd_some hF
      refine cV_v (As := []) (rest := []) C X (c_X7_readWord l D hT aT yT aT_0 yT_0 n (sI (sI gT 5 (gI gT 3)) 6 (0 : Int32)) gT_0 q_11 hc_12 _) (cwV 0 hts (good_V q3_144 q3_146 q0_4 q1_12 q3_147) rfl rfl rfl (by decide +kernel) ⟨Nat.le_of_ble_eq_true rfl, Nat.le_of_ble_eq_true rfl⟩) (va_recv X.1 X.2.1 (ci := 7) (q0 := 0) rfl rfl) (X.1.sub (tys' := tX7 yT ++ (tTP yT_0)) [0] rfl) (X.2.1.sub (ws' := wX7 hT aT yT (sI (sI gT 5 (gI gT 3)) 6 (0 : Int32)) ++ (wTP (aT 0) aT_0 yT_0 gT_0)) [0, 1] rfl) (X.2.2.1.sub (ws' := wX7 hT aT yT (sI (sI gT 5 (gI gT 3)) 6 (0 : Int32)) ++ (wTP (aT 0) aT_0 yT_0 gT_0)) [0, 1] (by decide) rfl) (free_of (wC := wX7 hT aT yT (sI (sI gT 5 (gI gT 3)) 6 (0 : Int32)) ++ (wTP (aT 0) aT_0 yT_0 gT_0)) (isC := [0, 1]) X rfl) hl.1 rfl rfl (Nat.le_of_ble_eq_true rfl) dX7_advance_81 ⟨Nat.le_of_ble_eq_true rfl, Nat.le_of_ble_eq_true rfl⟩ (fun t H1 locs1 ht hB hk hS => ?_)
      have X : Hx D (tX7 yT ++ (tTP yT_0 ++ (tX6 yT_1))) A s H1 locs1 (wX7 hT aT yT q_11 ++ (wTP (aT 0) aT_0 yT_0 gT_0 ++ (wX6 (aT 1) aT_1 yT_1 gT_1))) := Hx_after (isC := [0, 1]) (isR := [2, 3]) (pm := [2, 3, 0, 1]) (wr := wX6 (aT 1) aT_1 yT_1 gT_1) X ⟨rfl, rfl, by decide, by decide, rfl, by decide⟩ ht hB hk hS
      clear hk hS ht hB
      generalize H1 = H at X ⊢
      generalize locs1 = locs at X ⊢
      refine lv_goto (tgt := 106) hx hb dX7_advance_84 (by decide) ?_
      have hq := Option.some.inj hF
      subst hq
      exact rt_v C X dX7_advance_106
  · replace hF := iT c hF
    refine lv_aload_n hx hb dX7_advance_65 rfl (lv_at hl 1 rfl) ?_
    refine lv_iconst (v := (0 : Int32)) hx hb dX7_advance_66 (by decide) ?_
    refine va_put (D := D.1) (ci := 7) (v := .int (0 : Int32)) (ty := .int) (C := RX7) (T := TX7) (N := 12) hx hb hts wi_X7 tyX7 tyX7_ok nmX7 hown X.1 X.2.1 X.2.2.1 X.2.2.2.1 0 rfl rfl 4 (by decide) (hts _ q2_239) (fun _ h9 => h9) rfl (by decide +kernel) rfl rfl (by rw [List.length_map, List.length_range]; decide) dX7_advance_67 (fun H locs hP hD hS => ?_)
    have X : Hx D (tX7 yT ++ (tTP yT_0 ++ (tX6 yT_1))) A s H locs (wX7 hT aT yT (sI (sI (sI gT 5 (gI gT 3)) 6 (0 : Int32)) 4 (0 : Int32)) ++ (wTP (aT 0) aT_0 yT_0 gT_0 ++ (wX6 (aT 1) aT_1 yT_1 gT_1))) := Hx_set X (set_l (by rw [wG_len (m := 1) rfl]; decide) (wG_sI (k := 4) rfl)) hP hD hS
    refine lv_goto (tgt := 106) hx hb dX7_advance_70 (by decide) ?_
    have hq := Option.some.inj hF
    subst hq
    exact rt_v C X dX7_advance_106
set_option maxHeartbeats 4000000 in
set_option maxRecDepth 100000 in
theorem k_X7_advance_0 (l : Launch) (D : Dx) (hT : Nat) (aT : Nat → Nat) (yT : Nat → ClassId) (aT_0 : Nat → Nat) (yT_0 : Nat → ClassId) (aT_1 : Nat → Nat) (yT_1 : Nat → ClassId) (n : Nat) (rec : (Gs → Gs → Gs → Option (Gs))) (IH : SH_X7_advance l D hT aT yT aT_0 yT_0 aT_1 yT_1 rec) : S_X7_advance_0 l D hT aT yT aT_0 yT_0 aT_1 yT_1 (h_X7_advance_0 n rec) := by
  intro p e s m args below meth c H locs A ls gT gT_0 gT_1 q C X hl hF
  obtain ⟨hx, hb, hr, hml, hown, hts, hlk⟩ := id C
  unfold h_X7_advance_0 at hF
  refine lv_aload_n hx hb dX7_advance_0 rfl (lv_at hl 0 rfl) ?_
  refine va_get (D := D.1) (ci := 7) (v := .int (gI gT 3)) (C := RX7) (T := TX7) (N := 12) hx hb hts wi_X7 hown X.1 X.2.1 0 rfl rfl 3 (by decide) (hts _ q2_238) (fun _ h9 => h9) (fl_get (by decide)) dX7_advance_1 ?_
  refine lv_aload_n hx hb dX7_advance_4 rfl (lv_at hl 0 rfl) ?_
  refine va_get (D := D.1) (ci := 7) (v := .int (gI gT 2)) (C := RX7) (T := TX7) (N := 12) hx hb hts wi_X7 hown X.1 X.2.1 0 rfl rfl 2 (by decide) (hts _ q2_237) (fun _ h9 => h9) (fl_get (by decide)) dX7_advance_5 ?_
  refine lv_icmp_ge (tgt := 38) hx hb dX7_advance_8 (by decide) (fun c => ?_) (fun c => ?_)
  · replace hF := iT c hF
    exact (k_X7_advance_38 l D hT aT yT aT_0 yT_0 aT_1 yT_1 n rec IH) C X (lv_sub hl [0] rfl) hF
  · replace hF := iF c hF
    refine lv_aload_n hx hb dX7_advance_11 rfl (lv_at hl 0 rfl) ?_
    refine lv_aload_n hx hb dX7_advance_12 rfl (lv_at hl 0 rfl) ?_
    refine va_get (D := D.1) (ci := 7) (v := .int (gI gT 3)) (C := RX7) (T := TX7) (N := 12) hx hb hts wi_X7 hown X.1 X.2.1 0 rfl rfl 3 (by decide) (hts _ q2_238) (fun _ h9 => h9) (fl_get (by decide)) dX7_advance_13 ?_
    obtain ⟨q_13, hc_14, hF⟩ := bnd_some hF
    refine cV_i (As := [.int (gI gT 3)]) (rest := []) C X (c_X7_byteAt l D hT aT yT aT_0 yT_0 gT gT_0 (gI gT 3) q_13 hc_14 _) (cwV 1 hts (good_V q3_134 q3_136 q0_3 q1_12 q3_137) rfl rfl rfl (by decide +kernel) ⟨Nat.le_of_ble_eq_true rfl, Nat.le_of_ble_eq_true rfl⟩) (va_recv X.1 X.2.1 (ci := 7) (q0 := 0) rfl rfl) (X.1.sub (tys' := tX7 yT ++ (tTP yT_0)) [0] rfl) (X.2.1.sub (ws' := wX7 hT aT yT gT ++ (wTP (aT 0) aT_0 yT_0 gT_0)) [0, 1] rfl) (X.2.2.1.sub (ws' := wX7 hT aT yT gT ++ (wTP (aT 0) aT_0 yT_0 gT_0)) [0, 1] (by decide) rfl) (free_of (wC := wX7 hT aT yT gT ++ (wTP (aT 0) aT_0 yT_0 gT_0)) (isC := [0, 1]) X rfl) hl.1 rfl rfl (Nat.le_of_ble_eq_true rfl) dX7_advance_16 ⟨Nat.le_of_ble_eq_true rfl, Nat.le_of_ble_eq_true rfl⟩ (fun t H1 locs1 ht hB hk hS => ?_)
    have X : Hx D (tX7 yT ++ (tTP yT_0 ++ (tX6 yT_1))) A s H1 locs1 (wX7 hT aT yT gT ++ (wTP (aT 0) aT_0 yT_0 gT_0 ++ (wX6 (aT 1) aT_1 yT_1 gT_1))) := Hx_after (isC := [0, 1]) (isR := [2, 3]) (pm := [2, 3, 0, 1]) (wr := wX6 (aT 1) aT_1 yT_1 gT_1) X ⟨rfl, rfl, by decide, by decide, rfl, by decide⟩ ht hB hk hS
    clear hk hS ht hB
    generalize H1 = H at X ⊢
    generalize locs1 = locs at X ⊢
    obtain ⟨q_15, hc_16, hF⟩ := bnd_some hF
    refine cS_i (As := [.int q_13]) (rest := []) C X (c_X7_isBlank l D  q_13 q_15 hc_16 _) (va_cwS 1 hts (good_S q3_138 q3_139 q1_12 q3_140) rfl rfl rfl (by decide +kernel) ⟨Nat.le_of_ble_eq_true rfl, Nat.le_of_ble_eq_true rfl⟩) (eK X) eP (eD (A := A)) (eF X) hl.1 rfl rfl (Nat.le_of_ble_eq_true rfl) dX7_advance_19 ⟨Nat.le_of_ble_eq_true rfl, Nat.le_of_ble_eq_true rfl⟩ (fun t H1 locs1 ht hB hk hS => ?_)
    have X := Hx_after_none X hk hS
    clear hk hS ht hB
    generalize H1 = H at X ⊢
    generalize locs1 = locs at X ⊢
    refine lv_if_eq (tgt := 38) hx hb dX7_advance_22 (by decide) (fun c => ?_) (fun c => ?_)
    · replace hF := iT c hF
      exact (k_X7_advance_38 l D hT aT yT aT_0 yT_0 aT_1 yT_1 n rec IH) C X (lv_sub hl [0] rfl) hF
    · replace hF := iF c hF
      refine lv_aload_n hx hb dX7_advance_25 rfl (lv_at hl 0 rfl) ?_
      refine lv_dup hx hb dX7_advance_26 rfl ?_
      refine va_get (D := D.1) (ci := 7) (v := .int (gI gT 3)) (C := RX7) (T := TX7) (N := 12) hx hb hts wi_X7 hown X.1 X.2.1 0 rfl rfl 3 (by decide) (hts _ q2_238) (fun _ h9 => h9) (fl_get (by decide)) dX7_advance_27 ?_
      refine lv_iconst (v := (1 : Int32)) hx hb dX7_advance_30 (by decide) ?_
      refine lv_iadd hx hb dX7_advance_31 ?_
      refine va_put (D := D.1) (ci := 7) (v := .int ((gI gT 3) + (1 : Int32))) (ty := .int) (C := RX7) (T := TX7) (N := 12) hx hb hts wi_X7 tyX7 tyX7_ok nmX7 hown X.1 X.2.1 X.2.2.1 X.2.2.2.1 0 rfl rfl 3 (by decide) (hts _ q2_238) (fun _ h9 => h9) rfl (by decide +kernel) rfl rfl (by rw [List.length_map, List.length_range]; decide) dX7_advance_32 (fun H locs hP hD hS => ?_)
      have X : Hx D (tX7 yT ++ (tTP yT_0 ++ (tX6 yT_1))) A s H locs (wX7 hT aT yT (sI gT 3 ((gI gT 3) + (1 : Int32))) ++ (wTP (aT 0) aT_0 yT_0 gT_0 ++ (wX6 (aT 1) aT_1 yT_1 gT_1))) := Hx_set X (set_l (by rw [wG_len (m := 1) rfl]; decide) (wG_sI (k := 3) rfl)) hP hD hS
      refine lv_goto (tgt := 0) hx hb dX7_advance_35 (by decide) ?_
      exact IH C X (lv_sub hl [0] rfl) hF
theorem kL_X7_advance (l : Launch) (D : Dx) (hT : Nat) (aT : Nat → Nat) (yT : Nat → ClassId) (aT_0 : Nat → Nat) (yT_0 : Nat → ClassId) (aT_1 : Nat → Nat) (yT_1 : Nat → ClassId) (n : Nat) : ∀ k, SH_X7_advance l D hT aT yT aT_0 yT_0 aT_1 yT_1 (L_X7_advance n k)
  | 0 => fun _ _ _ h => by cases h
  | k + 1 => k_X7_advance_0 l D hT aT yT aT_0 yT_0 aT_1 yT_1 n _ (kL_X7_advance l D hT aT yT aT_0 yT_0 aT_1 yT_1 n k)
set_option maxHeartbeats 4000000 in
set_option maxRecDepth 100000 in
theorem c_X7_advance (l : Launch) (D : Dx) (hT : Nat) (aT : Nat → Nat) (yT : Nat → ClassId) (aT_0 : Nat → Nat) (yT_0 : Nat → ClassId) (aT_1 : Nat → Nat) (yT_1 : Nat → ClassId) (n : Nat) (gT : Gs) (gT_0 : Gs) (gT_1 : Gs) (q : Gs) (hF : f_X7_advance n gT gT_0 gT_1 = some q) (sz : Nat) : Met l yX7_advance (ws_ yX7_advance cX7_advance 2 none) R_X7_advance (PC D (tX7 yT ++ (tTP yT_0 ++ (tX6 yT_1))) [.ref hT] (wX7 hT aT yT gT ++ (wTP (aT 0) aT_0 yT_0 gT_0 ++ (wX6 (aT 1) aT_1 yT_1 gT_1))) sz) (QV D (va_A (wX7 hT aT yT gT ++ (wTP (aT 0) aT_0 yT_0 gT_0 ++ (wX6 (aT 1) aT_1 yT_1 gT_1))) sz) (wX7 hT aT yT q ++ (wTP (aT 0) aT_0 yT_0 gT_0 ++ (wX6 (aT 1) aT_1 yT_1 gT_1)))) 0 0 (va_A (wX7 hT aT yT gT ++ (wTP (aT 0) aT_0 yT_0 gT_0 ++ (wX6 (aT 1) aT_1 yT_1 gT_1))) sz) := by
  refine Met.ofW (cc := cX7_advance) (maxL := 2) (ret := none) (by decide) rfl ?_
  intro p e s m args below meth c s₁ B hml hv
  obtain ⟨rfl, hsz, hP, hK, hD, hN⟩ := hv
  subst hsz
  have C : Cx p s m _ meth c cX7_advance none 2 RX7 lw_all := Cx_of B hml
  have X := Hx_start hP hK hD hN
  obtain ⟨hx, hb, hr, -, hown, hts, hlk⟩ := id C
  generalize va_A (wX7 hT aT yT gT ++ (wTP (aT 0) aT_0 yT_0 gT_0 ++ (wX6 (aT 1) aT_1 yT_1 gT_1))) s.heap.size = A at X ⊢
  have hl := lv_entry ([.ref hT]) (n := 2) (Nat.le_of_ble_eq_true rfl)
  rw [lg_entry_eq]
  generalize (lg_sl ([.ref hT]) ++ List.replicate (2 - (lg_sl ([.ref hT])).length) Slot.unset).toArray = ls at hl ⊢
  have hl : lv_has ls 2 [(0, .ref hT)] := hl
  unfold f_X7_advance at hF
  exact (kL_X7_advance l D hT aT yT aT_0 yT_0 aT_1 yT_1 n n) C X (lv_sub hl [0] rfl) hF

/-! ### X7_begin -/
theorem dX7_begin_0 : decode cX7_begin 0 = .ok (.aload_n 0, 1) := by decide +kernel
theorem dX7_begin_1 : decode cX7_begin 1 = .ok (.iload_n 1, 1) := by decide +kernel
theorem dX7_begin_2 : decode cX7_begin 2 = .ok (.aload_n 0, 1) := by decide +kernel
theorem dX7_begin_3 : decode cX7_begin 3 = .ok (.getfield 45, 3) := by decide +kernel
theorem dX7_begin_6 : decode cX7_begin 6 = .ok (.arraylength, 1) := by decide +kernel
theorem dX7_begin_7 : decode cX7_begin 7 = .ok (.invokestatic 53, 3) := by decide +kernel
theorem dX7_begin_10 : decode cX7_begin 10 = .ok (.putfield 9, 3) := by decide +kernel
theorem dX7_begin_13 : decode cX7_begin 13 = .ok (.aload_n 0, 1) := by decide +kernel
theorem dX7_begin_14 : decode cX7_begin 14 = .ok (.iconst 0, 1) := by decide +kernel
theorem dX7_begin_15 : decode cX7_begin 15 = .ok (.putfield 15, 3) := by decide +kernel
theorem dX7_begin_18 : decode cX7_begin 18 = .ok (.aload_n 0, 1) := by decide +kernel
theorem dX7_begin_19 : decode cX7_begin 19 = .ok (.invokevirtual 59, 3) := by decide +kernel
theorem dX7_begin_22 : decode cX7_begin 22 = .ok (.return_, 1) := by decide +kernel
abbrev R_X7_begin : Room := ({ frames := 7, cells := 0, slots := 0, locals := 175 } : Room)
def f_X7_begin (n : Nat) (gT : Gs) (gT_0 : Gs) (gT_1 : Gs) (x0 : Int32) : Option (Gs) :=
  bnd (f_X7_advance n (sI (sI gT 2 (if (3000 : Int32) < x0 then (3000 : Int32) else x0)) 3 (0 : Int32)) gT_0 gT_1) (fun q_1 => some q_1)
set_option maxHeartbeats 4000000 in
set_option maxRecDepth 100000 in
theorem c_X7_begin (l : Launch) (D : Dx) (hT : Nat) (aT : Nat → Nat) (yT : Nat → ClassId) (aT_0 : Nat → Nat) (yT_0 : Nat → ClassId) (aT_1 : Nat → Nat) (yT_1 : Nat → ClassId) (n : Nat) (gT : Gs) (gT_0 : Gs) (gT_1 : Gs) (x0 : Int32) (q : Gs) (hF : f_X7_begin n gT gT_0 gT_1 x0 = some q) (sz : Nat) : Met l yX7_begin (ws_ yX7_begin cX7_begin 2 none) R_X7_begin (PC D (tX7 yT ++ (tTP yT_0 ++ (tX6 yT_1))) [.ref hT, .int x0] (wX7 hT aT yT gT ++ (wTP (aT 0) aT_0 yT_0 gT_0 ++ (wX6 (aT 1) aT_1 yT_1 gT_1))) sz) (QV D (va_A (wX7 hT aT yT gT ++ (wTP (aT 0) aT_0 yT_0 gT_0 ++ (wX6 (aT 1) aT_1 yT_1 gT_1))) sz) (wX7 hT aT yT q ++ (wTP (aT 0) aT_0 yT_0 gT_0 ++ (wX6 (aT 1) aT_1 yT_1 gT_1)))) 0 0 (va_A (wX7 hT aT yT gT ++ (wTP (aT 0) aT_0 yT_0 gT_0 ++ (wX6 (aT 1) aT_1 yT_1 gT_1))) sz) := by
  refine Met.ofW (cc := cX7_begin) (maxL := 2) (ret := none) (by decide) rfl ?_
  intro p e s m args below meth c s₁ B hml hv
  obtain ⟨rfl, hsz, hP, hK, hD, hN⟩ := hv
  subst hsz
  have C : Cx p s m _ meth c cX7_begin none 2 RX7 lw_all := Cx_of B hml
  have X := Hx_start hP hK hD hN
  obtain ⟨hx, hb, hr, -, hown, hts, hlk⟩ := id C
  generalize va_A (wX7 hT aT yT gT ++ (wTP (aT 0) aT_0 yT_0 gT_0 ++ (wX6 (aT 1) aT_1 yT_1 gT_1))) s.heap.size = A at X ⊢
  have hl := lv_entry ([.ref hT, .int x0]) (n := 2) (Nat.le_of_ble_eq_true rfl)
  rw [lg_entry_eq]
  generalize (lg_sl ([.ref hT, .int x0]) ++ List.replicate (2 - (lg_sl ([.ref hT, .int x0])).length) Slot.unset).toArray = ls at hl ⊢
  have hl : lv_has ls 2 [(0, .ref hT), (1, .int x0)] := hl
  unfold f_X7_begin at hF
  refine lv_aload_n hx hb dX7_begin_0 rfl (lv_at hl 0 rfl) ?_
  refine lv_iload_n hx hb dX7_begin_1 rfl (lv_at hl 1 rfl) ?_
  refine lv_aload_n hx hb dX7_begin_2 rfl (lv_at hl 0 rfl) ?_
  refine va_get (D := D.1) (ci := 7) (v := .ref (aT 0)) (C := RX7) (T := TX7) (N := 12) hx hb hts wi_X7 hown X.1 X.2.1 0 rfl rfl 0 (by decide) (hts _ q2_235) (fun _ h9 => h9) (fl_get (by decide)) dX7_begin_3 ?_
  refine va_alen (D := D.1) (v := (3000 : Int32)) hx hb X.1 X.2.1 1 0 rfl rfl rfl dX7_begin_6 ?_
  refine va_mmin hx hb (by rw [hml]; exact hl.1.symm) hown (hts _ q3_127) (hts _ q3_128) (hts _ q1_14) (hts _ q3_129) (Nat.le_of_ble_eq_true rfl) (Nat.le_of_ble_eq_true rfl) (Nat.le_of_ble_eq_true rfl) (Nat.le_of_ble_eq_true rfl) dX7_begin_7 ?_
  refine va_put (D := D.1) (ci := 7) (v := .int (if (3000 : Int32) < x0 then (3000 : Int32) else x0)) (ty := .int) (C := RX7) (T := TX7) (N := 12) hx hb hts wi_X7 tyX7 tyX7_ok nmX7 hown X.1 X.2.1 X.2.2.1 X.2.2.2.1 0 rfl rfl 2 (by decide) (hts _ q2_237) (fun _ h9 => h9) rfl (by decide +kernel) rfl rfl (by rw [List.length_map, List.length_range]; decide) dX7_begin_10 (fun H locs hP hD hS => ?_)
  have X : Hx D (tX7 yT ++ (tTP yT_0 ++ (tX6 yT_1))) A s H locs (wX7 hT aT yT (sI gT 2 (if (3000 : Int32) < x0 then (3000 : Int32) else x0)) ++ (wTP (aT 0) aT_0 yT_0 gT_0 ++ (wX6 (aT 1) aT_1 yT_1 gT_1))) := Hx_set X (set_l (by rw [wG_len (m := 1) rfl]; decide) (wG_sI (k := 2) rfl)) hP hD hS
  refine lv_aload_n hx hb dX7_begin_13 rfl (lv_at hl 0 rfl) ?_
  refine lv_iconst (v := (0 : Int32)) hx hb dX7_begin_14 (by decide) ?_
  refine va_put (D := D.1) (ci := 7) (v := .int (0 : Int32)) (ty := .int) (C := RX7) (T := TX7) (N := 12) hx hb hts wi_X7 tyX7 tyX7_ok nmX7 hown X.1 X.2.1 X.2.2.1 X.2.2.2.1 0 rfl rfl 3 (by decide) (hts _ q2_238) (fun _ h9 => h9) rfl (by decide +kernel) rfl rfl (by rw [List.length_map, List.length_range]; decide) dX7_begin_15 (fun H locs hP hD hS => ?_)
  have X : Hx D (tX7 yT ++ (tTP yT_0 ++ (tX6 yT_1))) A s H locs (wX7 hT aT yT (sI (sI gT 2 (if (3000 : Int32) < x0 then (3000 : Int32) else x0)) 3 (0 : Int32)) ++ (wTP (aT 0) aT_0 yT_0 gT_0 ++ (wX6 (aT 1) aT_1 yT_1 gT_1))) := Hx_set X (set_l (by rw [wG_len (m := 1) rfl]; decide) (wG_sI (k := 3) rfl)) hP hD hS
  refine lv_aload_n hx hb dX7_begin_18 rfl (lv_at hl 0 rfl) ?_
  obtain ⟨q_1, hc_2, hF⟩ := bnd_some hF
  refine cV_v (As := []) (rest := []) C X (c_X7_advance l D hT aT yT aT_0 yT_0 aT_1 yT_1 n (sI (sI gT 2 (if (3000 : Int32) < x0 then (3000 : Int32) else x0)) 3 (0 : Int32)) gT_0 gT_1 q_1 hc_2 _) (cwV 0 hts (good_V q3_130 q3_131 q3_132 q1_12 q3_133) rfl rfl rfl (by decide +kernel) ⟨Nat.le_of_ble_eq_true rfl, Nat.le_of_ble_eq_true rfl⟩) (va_recv X.1 X.2.1 (ci := 7) (q0 := 0) rfl rfl) X.1 X.2.1 X.2.2.1 (free_all X) hl.1 rfl rfl (Nat.le_of_ble_eq_true rfl) dX7_begin_19 ⟨Nat.le_of_ble_eq_true rfl, Nat.le_of_ble_eq_true rfl⟩ (fun t H1 locs1 ht hB hk hS => ?_)
  have X : Hx D (tX7 yT ++ (tTP yT_0 ++ (tX6 yT_1))) A s H1 locs1 (wX7 hT aT yT q_1 ++ (wTP (aT 0) aT_0 yT_0 gT_0 ++ (wX6 (aT 1) aT_1 yT_1 gT_1))) := Hx_after_all X ht hB hS
  clear hk hS ht hB
  generalize H1 = H at X ⊢
  generalize locs1 = locs at X ⊢
  have hq := Option.some.inj hF
  subst hq
  exact rt_v C X dX7_begin_22
