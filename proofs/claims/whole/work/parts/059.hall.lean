def kdX11 (k : Nat) : Nat := ([3, 0, 3, 3, 3, 3, 3, 3, 4, 4, 4, 4, 0, 1] : List Nat).getD k 9
def ksX11 : List Nat := []
def akX11 (k : Nat) : Nat := ([9, 9, 9, 9, 9, 9, 9, 9, 9, 9, 9, 9, 9, 9] : List Nat).getD k 9
def lnX11 (k : Nat) : Nat := ([0, 0, 0, 0, 0, 0, 0, 0, 0, 0, 0, 0, 0, 0] : List Nat).getD k 0
def tkX11 (k : Nat) : FieldType := ([.int, .int, .int, .int, .int, .int, .int, .int, .int, .int, .int, .int, .int, .int] : List FieldType).getD k .int
abbrev wX11 (h : Nat) (a : Nat → Nat) (y : Nat → ClassId) (g : Gs) : va_W := wG 11 14 kdX11 ksX11 akX11 lnX11 h a y g
abbrev tX11 (y : Nat → ClassId) : List (ClassId × FieldType) := tG ksX11 tkX11 y
theorem ndX11 : va_nd ksX11 = true := by decide
theorem wi_X11 : ∀ w ∈ u_ws RX11 TX11 14, w ∈ lw_all := wi_all (wi_eq rfl (wi_ch tc_2 [161, 163, 165, 167, 169, 171, 173, 175, 177, 179, 181, 183, 185, 187]))
theorem q5_204 : Cond.methodLink RX11 203 yX6_isFinite ∈ lw_all := lw_in (tc_5 (List.mem_of_getElem? (i := 204) rfl)) rfl
theorem q5_205 : Cond.static yX6_isFinite ∈ lw_all := lw_in (tc_5 (List.mem_of_getElem? (i := 205) rfl)) rfl
theorem q5_206 : Cond.code yX6_isFinite cX6_isFinite 2 (some .boolean) ∈ lw_all := lw_in (tc_5 (List.mem_of_getElem? (i := 206) rfl)) rfl
theorem q6_137 : Cond.constant RX11 329 (719468) ∈ lw_all := lw_in (tc_6 (List.mem_of_getElem? (i := 137) rfl)) rfl
theorem q6_138 : Cond.constant RX11 330 (146097) ∈ lw_all := lw_in (tc_6 (List.mem_of_getElem? (i := 138) rfl)) rfl
theorem q6_139 : Cond.methodLink RX11 331 yJ9_floorDiv_7cf53 ∈ lw_all := lw_in (tc_6 (List.mem_of_getElem? (i := 139) rfl)) rfl
theorem q6_140 : Cond.static yJ9_floorDiv_7cf53 ∈ lw_all := lw_in (tc_6 (List.mem_of_getElem? (i := 140) rfl)) rfl
theorem q6_141 : Cond.code yJ9_floorDiv_7cf53 cJ9_floorDiv_7cf53 3 (some .int) ∈ lw_all := lw_in (tc_6 (List.mem_of_getElem? (i := 141) rfl)) rfl
theorem q6_142 : Cond.constant RX11 334 (36524) ∈ lw_all := lw_in (tc_6 (List.mem_of_getElem? (i := 142) rfl)) rfl
theorem q6_143 : Cond.constant RX11 335 (146096) ∈ lw_all := lw_in (tc_6 (List.mem_of_getElem? (i := 143) rfl)) rfl
theorem q6_144 : Cond.fieldLink RX11 336 "TurningHall" "DAYS_AHEAD" "[I" ∈ lw_all := lw_in (tc_6 (List.mem_of_getElem? (i := 144) rfl)) rfl
theorem q6_146 : Cond.methodLink RX11 339 yX11_isLeap ∈ lw_all := lw_in (tc_6 (List.mem_of_getElem? (i := 146) rfl)) rfl
theorem q6_147 : Cond.static yX11_isLeap ∈ lw_all := lw_in (tc_6 (List.mem_of_getElem? (i := 147) rfl)) rfl
theorem q1_1 : Cond.initialized RX11 ∈ lw_all := lw_in (tc_1 (List.mem_of_getElem? (i := 1) rfl)) rfl
theorem q6_148 : Cond.code yX11_isLeap cX11_isLeap 1 (some .boolean) ∈ lw_all := lw_in (tc_6 (List.mem_of_getElem? (i := 148) rfl)) rfl
theorem q2_147 : Cond.fieldLink RX11 9 "TurningHall" "tape" "[B" ∈ lw_all := lw_in (tc_2 (List.mem_of_getElem? (i := 147) rfl)) rfl
theorem q2_148 : Cond.fieldLink RX11 13 "TurningHall" "tapeLength" "I" ∈ lw_all := lw_in (tc_2 (List.mem_of_getElem? (i := 148) rfl)) rfl
theorem q2_194 : Cond.methodLink RX11 89 yX11_feedOne ∈ lw_all := lw_in (tc_2 (List.mem_of_getElem? (i := 194) rfl)) rfl
theorem q2_196 : Cond.instanceMethod yX11_feedOne ∈ lw_all := lw_in (tc_2 (List.mem_of_getElem? (i := 196) rfl)) rfl
theorem q0_0 : Cond.selects RX11 yX11_feedOne yX11_feedOne ∈ lw_all := lw_in (tc_0 (List.mem_of_getElem? (i := 0) rfl)) rfl
theorem q2_197 : Cond.code yX11_feedOne cX11_feedOne 3 none ∈ lw_all := lw_in (tc_2 (List.mem_of_getElem? (i := 197) rfl)) rfl
theorem q2_159 : Cond.fieldLink RX11 78 "TurningHall" "faultKind" "I" ∈ lw_all := lw_in (tc_2 (List.mem_of_getElem? (i := 159) rfl)) rfl
theorem q2_160 : Cond.fieldLink RX11 81 "TurningHall" "toldBits" "J" ∈ lw_all := lw_in (tc_2 (List.mem_of_getElem? (i := 160) rfl)) rfl
theorem q2_155 : Cond.fieldLink RX11 63 "TurningHall" "current" "LTurningHall$Plan;" ∈ lw_all := lw_in (tc_2 (List.mem_of_getElem? (i := 155) rfl)) rfl
theorem q2_87 : Cond.fieldLinkNest RX11 122 "TurningHall$Plan" "bells" "I" "TurningHall" ∈ lw_tbl := tc_2 (List.mem_of_getElem? (i := 87) rfl)
theorem q2_76 : Cond.fieldLinkNest RX11 164 "TurningHall$Plan" "nameSize" "[I" "TurningHall" ∈ lw_tbl := tc_2 (List.mem_of_getElem? (i := 76) rfl)
theorem q2_150 : Cond.fieldLink RX11 27 "TurningHall" "now" "LTurningHall$State;" ∈ lw_all := lw_in (tc_2 (List.mem_of_getElem? (i := 150) rfl)) rfl
theorem q1_70 : Cond.fieldLinkNest RX11 167 "TurningHall$State" "jams" "[I" "TurningHall" ∈ lw_tbl := tc_1 (List.mem_of_getElem? (i := 70) rfl)
theorem q1_72 : Cond.fieldLinkNest RX11 170 "TurningHall$State" "jamKind" "[I" "TurningHall" ∈ lw_tbl := tc_1 (List.mem_of_getElem? (i := 72) rfl)
theorem q1_74 : Cond.fieldLinkNest RX11 173 "TurningHall$State" "jamPlace" "[I" "TurningHall" ∈ lw_tbl := tc_1 (List.mem_of_getElem? (i := 74) rfl)
theorem q2_82 : Cond.fieldLinkNest RX11 116 "TurningHall$Plan" "things" "I" "TurningHall" ∈ lw_tbl := tc_2 (List.mem_of_getElem? (i := 82) rfl)
theorem q2_91 : Cond.fieldLinkNest RX11 125 "TurningHall$Plan" "cams" "I" "TurningHall" ∈ lw_tbl := tc_2 (List.mem_of_getElem? (i := 91) rfl)
theorem q2_71 : Cond.fieldLinkNest RX11 128 "TurningHall$Plan" "code" "LTurningHall$Code;" "TurningHall" ∈ lw_tbl := tc_2 (List.mem_of_getElem? (i := 71) rfl)
theorem q2_0 : Cond.fieldLinkNest RX11 131 "TurningHall$Code" "nodes" "I" "TurningHall" ∈ lw_tbl := tc_2 (List.mem_of_getElem? (i := 0) rfl)
theorem q1_82 : Cond.fieldLinkNest RX11 136 "TurningHall$State" "strikes" "I" "TurningHall" ∈ lw_tbl := tc_1 (List.mem_of_getElem? (i := 82) rfl)
theorem q2_153 : Cond.fieldLink RX11 49 "TurningHall" "page" "LTurningHall$Page;" ∈ lw_all := lw_in (tc_2 (List.mem_of_getElem? (i := 153) rfl)) rfl
theorem q1_172 : Cond.fieldLinkNest RX11 139 "TurningHall$Page" "length" "I" "TurningHall" ∈ lw_tbl := tc_1 (List.mem_of_getElem? (i := 172) rfl)
theorem q2_154 : Cond.fieldLink RX11 56 "TurningHall" "latest" "LTurningHall$Train;" ∈ lw_all := lw_in (tc_2 (List.mem_of_getElem? (i := 154) rfl)) rfl
theorem q1_189 : Cond.fieldLinkNest RX11 142 "TurningHall$Train" "wheelCount" "I" "TurningHall" ∈ lw_tbl := tc_1 (List.mem_of_getElem? (i := 189) rfl)
theorem q5_165 : Cond.methodLink RX11 157 yX11_bellOf ∈ lw_all := lw_in (tc_5 (List.mem_of_getElem? (i := 165) rfl)) rfl
theorem q5_167 : Cond.instanceMethod yX11_bellOf ∈ lw_all := lw_in (tc_5 (List.mem_of_getElem? (i := 167) rfl)) rfl
theorem q0_59 : Cond.selects RX11 yX11_bellOf yX11_bellOf ∈ lw_all := lw_in (tc_0 (List.mem_of_getElem? (i := 59) rfl)) rfl
theorem q5_168 : Cond.code yX11_bellOf cX11_bellOf 2 (some .int) ∈ lw_all := lw_in (tc_5 (List.mem_of_getElem? (i := 168) rfl)) rfl
theorem q5_161 : Cond.methodLink RX11 153 yX11_toldOfRow ∈ lw_all := lw_in (tc_5 (List.mem_of_getElem? (i := 161) rfl)) rfl
theorem q5_163 : Cond.instanceMethod yX11_toldOfRow ∈ lw_all := lw_in (tc_5 (List.mem_of_getElem? (i := 163) rfl)) rfl
theorem q0_58 : Cond.selects RX11 yX11_toldOfRow yX11_toldOfRow ∈ lw_all := lw_in (tc_0 (List.mem_of_getElem? (i := 58) rfl)) rfl
theorem q5_164 : Cond.code yX11_toldOfRow cX11_toldOfRow 3 (some .int) ∈ lw_all := lw_in (tc_5 (List.mem_of_getElem? (i := 164) rfl)) rfl
theorem q1_76 : Cond.fieldLinkNest RX11 161 "TurningHall$State" "counts" "[I" "TurningHall" ∈ lw_tbl := tc_1 (List.mem_of_getElem? (i := 76) rfl)
theorem q2_97 : Cond.fieldLinkNest RX11 145 "TurningHall$Plan" "sorts" "[I" "TurningHall" ∈ lw_tbl := tc_2 (List.mem_of_getElem? (i := 97) rfl)
theorem q2_100 : Cond.fieldLinkNest RX11 149 "TurningHall$Plan" "parts" "[Z" "TurningHall" ∈ lw_tbl := tc_2 (List.mem_of_getElem? (i := 100) rfl)
theorem q2_73 : Cond.fieldLinkNest RX11 176 "TurningHall$Plan" "names" "[B" "TurningHall" ∈ lw_tbl := tc_2 (List.mem_of_getElem? (i := 73) rfl)
theorem q1_87 : Cond.fieldLinkNest RX11 179 "TurningHall$State" "ticks" "J" "TurningHall" ∈ lw_tbl := tc_1 (List.mem_of_getElem? (i := 87) rfl)
theorem q5_195 : Cond.methodLink RX11 194 yX9_pastRow ∈ lw_all := lw_in (tc_5 (List.mem_of_getElem? (i := 195) rfl)) rfl
theorem q2_149 : Cond.fieldLink RX11 20 "TurningHall" "reals" "LTurningHall$Reals;" ∈ lw_all := lw_in (tc_2 (List.mem_of_getElem? (i := 149) rfl)) rfl
theorem q1_66 : Cond.fieldLinkNest RX11 197 "TurningHall$State" "pastWhole" "[J" "TurningHall" ∈ lw_tbl := tc_1 (List.mem_of_getElem? (i := 66) rfl)
theorem q1_68 : Cond.fieldLinkNest RX11 200 "TurningHall$State" "pastReal" "[D" "TurningHall" ∈ lw_tbl := tc_1 (List.mem_of_getElem? (i := 68) rfl)
theorem q5_177 : Cond.methodLink RX11 190 yX6_bitsOf ∈ lw_all := lw_in (tc_5 (List.mem_of_getElem? (i := 177) rfl)) rfl
theorem q5_178 : Cond.instanceMethod yX6_bitsOf ∈ lw_all := lw_in (tc_5 (List.mem_of_getElem? (i := 178) rfl)) rfl
theorem q5_179 : Cond.selects RX6 yX6_bitsOf yX6_bitsOf ∈ lw_all := lw_in (tc_5 (List.mem_of_getElem? (i := 179) rfl)) rfl
theorem q5_180 : Cond.code yX6_bitsOf cX6_bitsOf 6 (some .long) ∈ lw_all := lw_in (tc_5 (List.mem_of_getElem? (i := 180) rfl)) rfl
theorem q1_55 : Cond.fieldLinkNest RX11 182 "TurningHall$State" "whole" "[J" "TurningHall" ∈ lw_tbl := tc_1 (List.mem_of_getElem? (i := 55) rfl)
theorem q1_58 : Cond.fieldLinkNest RX11 186 "TurningHall$State" "real" "[D" "TurningHall" ∈ lw_tbl := tc_1 (List.mem_of_getElem? (i := 58) rfl)
theorem q5_212 : Cond.methodLink RX11 210 yX6_wholeOf ∈ lw_all := lw_in (tc_5 (List.mem_of_getElem? (i := 212) rfl)) rfl
theorem q5_213 : Cond.methodLink RX11 214 yX6_realOf ∈ lw_all := lw_in (tc_5 (List.mem_of_getElem? (i := 213) rfl)) rfl
theorem q5_214 : Cond.instanceMethod yX6_realOf ∈ lw_all := lw_in (tc_5 (List.mem_of_getElem? (i := 214) rfl)) rfl
theorem q5_215 : Cond.selects RX6 yX6_realOf yX6_realOf ∈ lw_all := lw_in (tc_5 (List.mem_of_getElem? (i := 215) rfl)) rfl
theorem q5_216 : Cond.code yX6_realOf cX6_realOf 6 (some .double) ∈ lw_all := lw_in (tc_5 (List.mem_of_getElem? (i := 216) rfl)) rfl
theorem q1_61 : Cond.fieldLinkNest RX11 218 "TurningHall$State" "oldWhole" "[J" "TurningHall" ∈ lw_tbl := tc_1 (List.mem_of_getElem? (i := 61) rfl)
theorem q1_64 : Cond.fieldLinkNest RX11 221 "TurningHall$State" "oldReal" "[D" "TurningHall" ∈ lw_tbl := tc_1 (List.mem_of_getElem? (i := 64) rfl)
theorem q5_208 : Cond.methodLink RX11 207 yX6_isFiniteFloat ∈ lw_all := lw_in (tc_5 (List.mem_of_getElem? (i := 208) rfl)) rfl
theorem q5_209 : Cond.static yX6_isFiniteFloat ∈ lw_all := lw_in (tc_5 (List.mem_of_getElem? (i := 209) rfl)) rfl
theorem q5_210 : Cond.code yX6_isFiniteFloat cX6_isFiniteFloat 2 (some .boolean) ∈ lw_all := lw_in (tc_5 (List.mem_of_getElem? (i := 210) rfl)) rfl
theorem q1_89 : Cond.fieldLinkNest RX11 85 "TurningHall$State" "step" "D" "TurningHall" ∈ lw_tbl := tc_1 (List.mem_of_getElem? (i := 89) rfl)
theorem q5_231 : Cond.constantLong RX11 224 (-1) ∈ lw_all := lw_in (tc_5 (List.mem_of_getElem? (i := 231) rfl)) rfl
theorem q2_152 : Cond.fieldLink RX11 40 "TurningHall" "machine" "LTurningHall$Machine;" ∈ lw_all := lw_in (tc_2 (List.mem_of_getElem? (i := 152) rfl)) rfl
theorem q5_232 : Cond.methodLink RX11 226 yX1_turn ∈ lw_all := lw_in (tc_5 (List.mem_of_getElem? (i := 232) rfl)) rfl
theorem q5_233 : Cond.instanceMethod yX1_turn ∈ lw_all := lw_in (tc_5 (List.mem_of_getElem? (i := 233) rfl)) rfl
theorem q5_234 : Cond.selects RX1 yX1_turn yX1_turn ∈ lw_all := lw_in (tc_5 (List.mem_of_getElem? (i := 234) rfl)) rfl
theorem q5_235 : Cond.code yX1_turn cX1_turn 6 none ∈ lw_all := lw_in (tc_5 (List.mem_of_getElem? (i := 235) rfl)) rfl
theorem q1_84 : Cond.fieldLinkNest RX11 229 "TurningHall$State" "nextStrike" "I" "TurningHall" ∈ lw_tbl := tc_1 (List.mem_of_getElem? (i := 84) rfl)
theorem q6_11 : Cond.methodLink RX11 232 yJ9_floorMod_7cf53 ∈ lw_all := lw_in (tc_6 (List.mem_of_getElem? (i := 11) rfl)) rfl
theorem q6_12 : Cond.static yJ9_floorMod_7cf53 ∈ lw_all := lw_in (tc_6 (List.mem_of_getElem? (i := 12) rfl)) rfl
theorem q6_13 : Cond.code yJ9_floorMod_7cf53 cJ9_floorMod_7cf53 3 (some .int) ∈ lw_all := lw_in (tc_6 (List.mem_of_getElem? (i := 13) rfl)) rfl
theorem q1_78 : Cond.fieldLinkNest RX11 237 "TurningHall$State" "strikeTick" "[J" "TurningHall" ∈ lw_tbl := tc_1 (List.mem_of_getElem? (i := 78) rfl)
theorem q1_80 : Cond.fieldLinkNest RX11 240 "TurningHall$State" "strikeBell" "[I" "TurningHall" ∈ lw_tbl := tc_1 (List.mem_of_getElem? (i := 80) rfl)
theorem q6_46 : Cond.methodLink RX11 267 yX3_putReal ∈ lw_all := lw_in (tc_6 (List.mem_of_getElem? (i := 46) rfl)) rfl
theorem q6_47 : Cond.instanceMethod yX3_putReal ∈ lw_all := lw_in (tc_6 (List.mem_of_getElem? (i := 47) rfl)) rfl
theorem q6_48 : Cond.selects RX3 yX3_putReal yX3_putReal ∈ lw_all := lw_in (tc_6 (List.mem_of_getElem? (i := 48) rfl)) rfl
theorem q6_49 : Cond.code yX3_putReal cX3_putReal 10 none ∈ lw_all := lw_in (tc_6 (List.mem_of_getElem? (i := 49) rfl)) rfl
theorem q6_66 : Cond.constantDouble RX11 271 (4680673776000565248) ∈ lw_all := lw_in (tc_6 (List.mem_of_getElem? (i := 66) rfl)) rfl
theorem q6_67 : Cond.methodLink RX11 273 yX6_remainder ∈ lw_all := lw_in (tc_6 (List.mem_of_getElem? (i := 67) rfl)) rfl
theorem q6_68 : Cond.methodLink RX11 277 yX6_floorOf ∈ lw_all := lw_in (tc_6 (List.mem_of_getElem? (i := 68) rfl)) rfl
theorem q6_69 : Cond.methodLink RX11 281 yX3_put ∈ lw_all := lw_in (tc_6 (List.mem_of_getElem? (i := 69) rfl)) rfl
theorem q6_70 : Cond.methodLink RX11 284 yX3_putTwo ∈ lw_all := lw_in (tc_6 (List.mem_of_getElem? (i := 70) rfl)) rfl
theorem q6_71 : Cond.instanceMethod yX3_putTwo ∈ lw_all := lw_in (tc_6 (List.mem_of_getElem? (i := 71) rfl)) rfl
theorem q6_72 : Cond.selects RX3 yX3_putTwo yX3_putTwo ∈ lw_all := lw_in (tc_6 (List.mem_of_getElem? (i := 72) rfl)) rfl
theorem q6_73 : Cond.code yX3_putTwo cX3_putTwo 2 none ∈ lw_all := lw_in (tc_6 (List.mem_of_getElem? (i := 73) rfl)) rfl
theorem q1_170 : Cond.fieldLinkNest RX11 287 "TurningHall$Page" "bytes" "[B" "TurningHall" ∈ lw_tbl := tc_1 (List.mem_of_getElem? (i := 170) rfl)
theorem q6_82 : Cond.methodLink RX11 290 yX6_gcdOf ∈ lw_all := lw_in (tc_6 (List.mem_of_getElem? (i := 82) rfl)) rfl
theorem q6_83 : Cond.methodLink RX11 293 yX6_bits ∈ lw_all := lw_in (tc_6 (List.mem_of_getElem? (i := 83) rfl)) rfl
theorem q6_88 : Cond.methodLink RX11 297 yX11_isAboveZero ∈ lw_all := lw_in (tc_6 (List.mem_of_getElem? (i := 88) rfl)) rfl
theorem q6_89 : Cond.static yX11_isAboveZero ∈ lw_all := lw_in (tc_6 (List.mem_of_getElem? (i := 89) rfl)) rfl
theorem q6_90 : Cond.code yX11_isAboveZero cX11_isAboveZero 2 (some .boolean) ∈ lw_all := lw_in (tc_6 (List.mem_of_getElem? (i := 90) rfl)) rfl
theorem q6_91 : Cond.methodLink RX11 300 yX6_isBeyond ∈ lw_all := lw_in (tc_6 (List.mem_of_getElem? (i := 91) rfl)) rfl
theorem q6_111 : Cond.methodLink RX11 308 yX10_findTwo ∈ lw_all := lw_in (tc_6 (List.mem_of_getElem? (i := 111) rfl)) rfl
theorem q6_112 : Cond.instanceMethod yX10_findTwo ∈ lw_all := lw_in (tc_6 (List.mem_of_getElem? (i := 112) rfl)) rfl
theorem q6_113 : Cond.selects RX10 yX10_findTwo yX10_findTwo ∈ lw_all := lw_in (tc_6 (List.mem_of_getElem? (i := 113) rfl)) rfl
theorem q6_114 : Cond.code yX10_findTwo cX10_findTwo 11 (some .double) ∈ lw_all := lw_in (tc_6 (List.mem_of_getElem? (i := 114) rfl)) rfl
theorem q6_96 : Cond.methodLink RX11 304 yX10_findOne ∈ lw_all := lw_in (tc_6 (List.mem_of_getElem? (i := 96) rfl)) rfl
theorem q6_97 : Cond.instanceMethod yX10_findOne ∈ lw_all := lw_in (tc_6 (List.mem_of_getElem? (i := 97) rfl)) rfl
theorem q6_98 : Cond.selects RX10 yX10_findOne yX10_findOne ∈ lw_all := lw_in (tc_6 (List.mem_of_getElem? (i := 98) rfl)) rfl
theorem q6_99 : Cond.code yX10_findOne cX10_findOne 5 (some .double) ∈ lw_all := lw_in (tc_6 (List.mem_of_getElem? (i := 99) rfl)) rfl
theorem q1_187 : Cond.fieldLinkNest RX11 311 "TurningHall$Train" "wheels" "[I" "TurningHall" ∈ lw_tbl := tc_1 (List.mem_of_getElem? (i := 187) rfl)
theorem q6_126 : Cond.constant RX11 314 (-1000000000) ∈ lw_all := lw_in (tc_6 (List.mem_of_getElem? (i := 126) rfl)) rfl
theorem q6_127 : Cond.constantLong RX11 315 (-100000000) ∈ lw_all := lw_in (tc_6 (List.mem_of_getElem? (i := 127) rfl)) rfl
theorem q6_128 : Cond.constantLong RX11 317 (100000000) ∈ lw_all := lw_in (tc_6 (List.mem_of_getElem? (i := 128) rfl)) rfl
theorem q6_134 : Cond.methodLink RX11 326 yX11_dateOf ∈ lw_all := lw_in (tc_6 (List.mem_of_getElem? (i := 134) rfl)) rfl
theorem q6_135 : Cond.static yX11_dateOf ∈ lw_all := lw_in (tc_6 (List.mem_of_getElem? (i := 135) rfl)) rfl
theorem q6_136 : Cond.code yX11_dateOf cX11_dateOf 11 (some .int) ∈ lw_all := lw_in (tc_6 (List.mem_of_getElem? (i := 136) rfl)) rfl
theorem q6_129 : Cond.constantLong RX11 319 (3) ∈ lw_all := lw_in (tc_6 (List.mem_of_getElem? (i := 129) rfl)) rfl
theorem q6_130 : Cond.constantLong RX11 321 (7) ∈ lw_all := lw_in (tc_6 (List.mem_of_getElem? (i := 130) rfl)) rfl
theorem q6_131 : Cond.methodLink RX11 323 yJ9_floorMod_f86c9 ∈ lw_all := lw_in (tc_6 (List.mem_of_getElem? (i := 131) rfl)) rfl
theorem q6_132 : Cond.static yJ9_floorMod_f86c9 ∈ lw_all := lw_in (tc_6 (List.mem_of_getElem? (i := 132) rfl)) rfl
theorem q6_133 : Cond.code yJ9_floorMod_f86c9 cJ9_floorMod_f86c9 6 (some .long) ∈ lw_all := lw_in (tc_6 (List.mem_of_getElem? (i := 133) rfl)) rfl
/-! ### J9_floorDiv_7cf53 -/
theorem dJ9_floorDiv_7cf53_0 : decode cJ9_floorDiv_7cf53 0 = .ok (.iload_n 0, 1) := by decide +kernel
theorem dJ9_floorDiv_7cf53_1 : decode cJ9_floorDiv_7cf53 1 = .ok (.iload_n 1, 1) := by decide +kernel
theorem dJ9_floorDiv_7cf53_2 : decode cJ9_floorDiv_7cf53 2 = .ok (.idiv, 1) := by decide +kernel
theorem dJ9_floorDiv_7cf53_3 : decode cJ9_floorDiv_7cf53 3 = .ok (.istore_n 2, 1) := by decide +kernel
theorem dJ9_floorDiv_7cf53_4 : decode cJ9_floorDiv_7cf53 4 = .ok (.iload_n 0, 1) := by decide +kernel
theorem dJ9_floorDiv_7cf53_5 : decode cJ9_floorDiv_7cf53 5 = .ok (.iload_n 1, 1) := by decide +kernel
theorem dJ9_floorDiv_7cf53_6 : decode cJ9_floorDiv_7cf53 6 = .ok (.ixor, 1) := by decide +kernel
theorem dJ9_floorDiv_7cf53_7 : decode cJ9_floorDiv_7cf53 7 = .ok (.ifCond .ge 14, 3) := by decide +kernel
theorem dJ9_floorDiv_7cf53_10 : decode cJ9_floorDiv_7cf53 10 = .ok (.iload_n 2, 1) := by decide +kernel
theorem dJ9_floorDiv_7cf53_11 : decode cJ9_floorDiv_7cf53 11 = .ok (.iload_n 1, 1) := by decide +kernel
theorem dJ9_floorDiv_7cf53_12 : decode cJ9_floorDiv_7cf53 12 = .ok (.imul, 1) := by decide +kernel
theorem dJ9_floorDiv_7cf53_13 : decode cJ9_floorDiv_7cf53 13 = .ok (.iload_n 0, 1) := by decide +kernel
theorem dJ9_floorDiv_7cf53_14 : decode cJ9_floorDiv_7cf53 14 = .ok (.if_icmp .eq 7, 3) := by decide +kernel
theorem dJ9_floorDiv_7cf53_17 : decode cJ9_floorDiv_7cf53 17 = .ok (.iload_n 2, 1) := by decide +kernel
theorem dJ9_floorDiv_7cf53_18 : decode cJ9_floorDiv_7cf53 18 = .ok (.iconst 1, 1) := by decide +kernel
theorem dJ9_floorDiv_7cf53_19 : decode cJ9_floorDiv_7cf53 19 = .ok (.isub, 1) := by decide +kernel
theorem dJ9_floorDiv_7cf53_20 : decode cJ9_floorDiv_7cf53 20 = .ok (.ireturn, 1) := by decide +kernel
theorem dJ9_floorDiv_7cf53_21 : decode cJ9_floorDiv_7cf53 21 = .ok (.iload_n 2, 1) := by decide +kernel
theorem dJ9_floorDiv_7cf53_22 : decode cJ9_floorDiv_7cf53 22 = .ok (.ireturn, 1) := by decide +kernel
abbrev R_J9_floorDiv_7cf53 : Room := ({ frames := 0, cells := 0, slots := 0, locals := 0 } : Room)
def f_J9_floorDiv_7cf53 (x0 : Int32) (x1 : Int32) : Option (Int32) :=
  grd (nzI x1) (if 0 ≤ (x0 ^^^ x1) then (some (x0 / x1)) else (if ((x0 / x1) * x1) = x0 then (some (x0 / x1)) else (some ((x0 / x1) - (1 : Int32)))))
set_option maxHeartbeats 4000000 in
set_option maxRecDepth 100000 in
theorem c_J9_floorDiv_7cf53 (l : Launch) (D : Dx) (x0 : Int32) (x1 : Int32) (q : Int32) (hF : f_J9_floorDiv_7cf53 x0 x1 = some q) (sz : Nat) : Met l yJ9_floorDiv_7cf53 (ws_ yJ9_floorDiv_7cf53 cJ9_floorDiv_7cf53 3 (some .int)) R_J9_floorDiv_7cf53 (PC D ([]) [.int x0, .int x1] ([]) sz) (QI D (va_A ([]) sz) ([]) q) 0 0 (va_A ([]) sz) := by
  refine va_MetF (cc := cJ9_floorDiv_7cf53) (maxL := 3) (ret := (some .int)) (by decide +kernel) rfl ?_
  intro p e s m args below meth c s₁ B hml hv
  obtain ⟨rfl, hsz, hP, hK, hD, hN⟩ := hv
  subst hsz
  have C : Cx p s m _ meth c cJ9_floorDiv_7cf53 (some .int) 3 RJ9 lw_all := Cx_of B hml
  have X := Hx_start hP hK hD hN
  obtain ⟨hx, hb, hr, -, hown, hts, hlk⟩ := id C
  generalize va_A ([]) s.heap.size = A at X ⊢
  have hl := lv_entry ([.int x0, .int x1]) (n := 3) (Nat.le_of_ble_eq_true rfl)
  rw [lg_entry_eq]
  generalize (lg_sl ([.int x0, .int x1]) ++ List.replicate (3 - (lg_sl ([.int x0, .int x1])).length) Slot.unset).toArray = ls at hl ⊢
  have hl : lv_has ls 3 [(0, .int x0), (1, .int x1)] := hl
  unfold f_J9_floorDiv_7cf53 at hF
  refine lv_iload_n hx hb dJ9_floorDiv_7cf53_0 rfl (lv_at hl 0 rfl) ?_
  refine lv_iload_n hx hb dJ9_floorDiv_7cf53_1 rfl (lv_at hl 1 rfl) ?_
  obtain ⟨h_1, hF⟩ := grd_some hF
  refine lv_idiv hx hb dJ9_floorDiv_7cf53_2 (nzI_ok h_1) ?_
  refine lv_istore_n (lv' := [(2, .int (x0 / x1)), (0, .int x0), (1, .int x1)]) hx hb dJ9_floorDiv_7cf53_3 rfl hl (by decide) rfl (fun ls hl => ?_)
  refine lv_iload_n hx hb dJ9_floorDiv_7cf53_4 rfl (lv_at hl 1 rfl) ?_
  refine lv_iload_n hx hb dJ9_floorDiv_7cf53_5 rfl (lv_at hl 2 rfl) ?_
  refine lv_ixor hx hb dJ9_floorDiv_7cf53_6 ?_
  refine lv_if_ge (tgt := 21) hx hb dJ9_floorDiv_7cf53_7 (by decide) (fun c => ?_) (fun c => ?_)
  · replace hF := iT c hF
    refine lv_iload_n hx hb dJ9_floorDiv_7cf53_21 rfl (lv_at hl 0 rfl) ?_
    have hq := Option.some.inj hF
    subst hq
    exact rt_i C X dJ9_floorDiv_7cf53_22
  · replace hF := iF c hF
    refine lv_iload_n hx hb dJ9_floorDiv_7cf53_10 rfl (lv_at hl 0 rfl) ?_
    refine lv_iload_n hx hb dJ9_floorDiv_7cf53_11 rfl (lv_at hl 2 rfl) ?_
    refine lv_imul hx hb dJ9_floorDiv_7cf53_12 ?_
    refine lv_iload_n hx hb dJ9_floorDiv_7cf53_13 rfl (lv_at hl 1 rfl) ?_
    refine lv_icmp_eq (tgt := 21) hx hb dJ9_floorDiv_7cf53_14 (by decide) (fun c => ?_) (fun c => ?_)
    · replace hF := iT c hF
      refine lv_iload_n hx hb dJ9_floorDiv_7cf53_21 rfl (lv_at hl 0 rfl) ?_
      have hq := Option.some.inj hF
      subst hq
      exact rt_i C X dJ9_floorDiv_7cf53_22
    · replace hF := iF c hF
      refine lv_iload_n hx hb dJ9_floorDiv_7cf53_17 rfl (lv_at hl 0 rfl) ?_
      refine lv_iconst (v := (1 : Int32)) hx hb dJ9_floorDiv_7cf53_18 (by decide) ?_
      refine lv_isub hx hb dJ9_floorDiv_7cf53_19 ?_
      have hq := Option.some.inj hF
      subst hq
      exact rt_i C X dJ9_floorDiv_7cf53_20

/-! ### J9_floorMod_7cf53 -/
theorem dJ9_floorMod_7cf53_0 : decode cJ9_floorMod_7cf53 0 = .ok (.iload_n 0, 1) := by decide +kernel
theorem dJ9_floorMod_7cf53_1 : decode cJ9_floorMod_7cf53 1 = .ok (.iload_n 1, 1) := by decide +kernel
theorem dJ9_floorMod_7cf53_2 : decode cJ9_floorMod_7cf53 2 = .ok (.irem, 1) := by decide +kernel
theorem dJ9_floorMod_7cf53_3 : decode cJ9_floorMod_7cf53 3 = .ok (.istore_n 2, 1) := by decide +kernel
theorem dJ9_floorMod_7cf53_4 : decode cJ9_floorMod_7cf53 4 = .ok (.iload_n 0, 1) := by decide +kernel
theorem dJ9_floorMod_7cf53_5 : decode cJ9_floorMod_7cf53 5 = .ok (.iload_n 1, 1) := by decide +kernel
theorem dJ9_floorMod_7cf53_6 : decode cJ9_floorMod_7cf53 6 = .ok (.ixor, 1) := by decide +kernel
theorem dJ9_floorMod_7cf53_7 : decode cJ9_floorMod_7cf53 7 = .ok (.ifCond .ge 11, 3) := by decide +kernel
theorem dJ9_floorMod_7cf53_10 : decode cJ9_floorMod_7cf53 10 = .ok (.iload_n 2, 1) := by decide +kernel
theorem dJ9_floorMod_7cf53_11 : decode cJ9_floorMod_7cf53 11 = .ok (.ifCond .eq 7, 3) := by decide +kernel
theorem dJ9_floorMod_7cf53_14 : decode cJ9_floorMod_7cf53 14 = .ok (.iload_n 2, 1) := by decide +kernel
theorem dJ9_floorMod_7cf53_15 : decode cJ9_floorMod_7cf53 15 = .ok (.iload_n 1, 1) := by decide +kernel
theorem dJ9_floorMod_7cf53_16 : decode cJ9_floorMod_7cf53 16 = .ok (.iadd, 1) := by decide +kernel
theorem dJ9_floorMod_7cf53_17 : decode cJ9_floorMod_7cf53 17 = .ok (.ireturn, 1) := by decide +kernel
theorem dJ9_floorMod_7cf53_18 : decode cJ9_floorMod_7cf53 18 = .ok (.iload_n 2, 1) := by decide +kernel
theorem dJ9_floorMod_7cf53_19 : decode cJ9_floorMod_7cf53 19 = .ok (.ireturn, 1) := by decide +kernel
abbrev R_J9_floorMod_7cf53 : Room := ({ frames := 0, cells := 0, slots := 0, locals := 0 } : Room)
def f_J9_floorMod_7cf53 (x0 : Int32) (x1 : Int32) : Option (Int32) :=
  grd (nzI x1) (if 0 ≤ (x0 ^^^ x1) then (some (x0 - x0 / x1 * x1)) else (if (x0 - x0 / x1 * x1) = 0 then (some (x0 - x0 / x1 * x1)) else (some ((x0 - x0 / x1 * x1) + x1))))
set_option maxHeartbeats 4000000 in
set_option maxRecDepth 100000 in
theorem c_J9_floorMod_7cf53 (l : Launch) (D : Dx) (x0 : Int32) (x1 : Int32) (q : Int32) (hF : f_J9_floorMod_7cf53 x0 x1 = some q) (sz : Nat) : Met l yJ9_floorMod_7cf53 (ws_ yJ9_floorMod_7cf53 cJ9_floorMod_7cf53 3 (some .int)) R_J9_floorMod_7cf53 (PC D ([]) [.int x0, .int x1] ([]) sz) (QI D (va_A ([]) sz) ([]) q) 0 0 (va_A ([]) sz) := by
  refine va_MetF (cc := cJ9_floorMod_7cf53) (maxL := 3) (ret := (some .int)) (by decide +kernel) rfl ?_
  intro p e s m args below meth c s₁ B hml hv
  obtain ⟨rfl, hsz, hP, hK, hD, hN⟩ := hv
  subst hsz
  have C : Cx p s m _ meth c cJ9_floorMod_7cf53 (some .int) 3 RJ9 lw_all := Cx_of B hml
  have X := Hx_start hP hK hD hN
  obtain ⟨hx, hb, hr, -, hown, hts, hlk⟩ := id C
  generalize va_A ([]) s.heap.size = A at X ⊢
  have hl := lv_entry ([.int x0, .int x1]) (n := 3) (Nat.le_of_ble_eq_true rfl)
  rw [lg_entry_eq]
  generalize (lg_sl ([.int x0, .int x1]) ++ List.replicate (3 - (lg_sl ([.int x0, .int x1])).length) Slot.unset).toArray = ls at hl ⊢
  have hl : lv_has ls 3 [(0, .int x0), (1, .int x1)] := hl
  unfold f_J9_floorMod_7cf53 at hF
  refine lv_iload_n hx hb dJ9_floorMod_7cf53_0 rfl (lv_at hl 0 rfl) ?_
  refine lv_iload_n hx hb dJ9_floorMod_7cf53_1 rfl (lv_at hl 1 rfl) ?_
  obtain ⟨h_1, hF⟩ := grd_some hF
  refine lv_irem hx hb dJ9_floorMod_7cf53_2 (nzI_ok h_1) ?_
  refine lv_istore_n (lv' := [(2, .int (x0 - x0 / x1 * x1)), (0, .int x0), (1, .int x1)]) hx hb dJ9_floorMod_7cf53_3 rfl hl (by decide) rfl (fun ls hl => ?_)
  refine lv_iload_n hx hb dJ9_floorMod_7cf53_4 rfl (lv_at hl 1 rfl) ?_
  refine lv_iload_n hx hb dJ9_floorMod_7cf53_5 rfl (lv_at hl 2 rfl) ?_
  refine lv_ixor hx hb dJ9_floorMod_7cf53_6 ?_
  refine lv_if_ge (tgt := 18) hx hb dJ9_floorMod_7cf53_7 (by decide) (fun c => ?_) (fun c => ?_)
  · replace hF := iT c hF
    refine lv_iload_n hx hb dJ9_floorMod_7cf53_18 rfl (lv_at hl 0 rfl) ?_
    have hq := Option.some.inj hF
    subst hq
    exact rt_i C X dJ9_floorMod_7cf53_19
  · replace hF := iF c hF
    refine lv_iload_n hx hb dJ9_floorMod_7cf53_10 rfl (lv_at hl 0 rfl) ?_
    refine lv_if_eq (tgt := 18) hx hb dJ9_floorMod_7cf53_11 (by decide) (fun c => ?_) (fun c => ?_)
    · replace hF := iT c hF
      refine lv_iload_n hx hb dJ9_floorMod_7cf53_18 rfl (lv_at hl 0 rfl) ?_
      have hq := Option.some.inj hF
      subst hq
      exact rt_i C X dJ9_floorMod_7cf53_19
    · replace hF := iF c hF
      refine lv_iload_n hx hb dJ9_floorMod_7cf53_14 rfl (lv_at hl 0 rfl) ?_
      refine lv_iload_n hx hb dJ9_floorMod_7cf53_15 rfl (lv_at hl 2 rfl) ?_
      refine lv_iadd hx hb dJ9_floorMod_7cf53_16 ?_
      have hq := Option.some.inj hF
      subst hq
      exact rt_i C X dJ9_floorMod_7cf53_17

/-! ### J9_floorMod_f86c9 -/
theorem dJ9_floorMod_f86c9_0 : decode cJ9_floorMod_f86c9 0 = .ok (.lload_n 0, 1) := by decide +kernel
theorem dJ9_floorMod_f86c9_1 : decode cJ9_floorMod_f86c9 1 = .ok (.lload_n 2, 1) := by decide +kernel
theorem dJ9_floorMod_f86c9_2 : decode cJ9_floorMod_f86c9 2 = .ok (.lrem, 1) := by decide +kernel
theorem dJ9_floorMod_f86c9_3 : decode cJ9_floorMod_f86c9 3 = .ok (.lstore 4, 2) := by decide +kernel
theorem dJ9_floorMod_f86c9_5 : decode cJ9_floorMod_f86c9 5 = .ok (.lload_n 0, 1) := by decide +kernel
theorem dJ9_floorMod_f86c9_6 : decode cJ9_floorMod_f86c9 6 = .ok (.lload_n 2, 1) := by decide +kernel
theorem dJ9_floorMod_f86c9_7 : decode cJ9_floorMod_f86c9 7 = .ok (.lxor, 1) := by decide +kernel
theorem dJ9_floorMod_f86c9_8 : decode cJ9_floorMod_f86c9 8 = .ok (.lconst 0, 1) := by decide +kernel
theorem dJ9_floorMod_f86c9_9 : decode cJ9_floorMod_f86c9 9 = .ok (.lcmp, 1) := by decide +kernel
theorem dJ9_floorMod_f86c9_10 : decode cJ9_floorMod_f86c9 10 = .ok (.ifCond .ge 15, 3) := by decide +kernel
theorem dJ9_floorMod_f86c9_13 : decode cJ9_floorMod_f86c9 13 = .ok (.lload 4, 2) := by decide +kernel
theorem dJ9_floorMod_f86c9_15 : decode cJ9_floorMod_f86c9 15 = .ok (.lconst 0, 1) := by decide +kernel
theorem dJ9_floorMod_f86c9_16 : decode cJ9_floorMod_f86c9 16 = .ok (.lcmp, 1) := by decide +kernel
theorem dJ9_floorMod_f86c9_17 : decode cJ9_floorMod_f86c9 17 = .ok (.ifCond .eq 8, 3) := by decide +kernel
theorem dJ9_floorMod_f86c9_20 : decode cJ9_floorMod_f86c9 20 = .ok (.lload 4, 2) := by decide +kernel
theorem dJ9_floorMod_f86c9_22 : decode cJ9_floorMod_f86c9 22 = .ok (.lload_n 2, 1) := by decide +kernel
theorem dJ9_floorMod_f86c9_23 : decode cJ9_floorMod_f86c9 23 = .ok (.ladd, 1) := by decide +kernel
theorem dJ9_floorMod_f86c9_24 : decode cJ9_floorMod_f86c9 24 = .ok (.lreturn, 1) := by decide +kernel
theorem dJ9_floorMod_f86c9_25 : decode cJ9_floorMod_f86c9 25 = .ok (.lload 4, 2) := by decide +kernel
theorem dJ9_floorMod_f86c9_27 : decode cJ9_floorMod_f86c9 27 = .ok (.lreturn, 1) := by decide +kernel
abbrev R_J9_floorMod_f86c9 : Room := ({ frames := 0, cells := 0, slots := 0, locals := 0 } : Room)
def f_J9_floorMod_f86c9 (x0 : Int64) (x1 : Int64) : Option (Int64) :=
  grd (nzL x1) (if (0 : Int64) ≤ (x0 ^^^ x1) then (some (x0 - x0 / x1 * x1)) else (if (x0 - x0 / x1 * x1) = (0 : Int64) then (some (x0 - x0 / x1 * x1)) else (some ((x0 - x0 / x1 * x1) + x1))))
set_option maxHeartbeats 4000000 in
set_option maxRecDepth 100000 in
theorem c_J9_floorMod_f86c9 (l : Launch) (D : Dx) (x0 : Int64) (x1 : Int64) (q : Int64) (hF : f_J9_floorMod_f86c9 x0 x1 = some q) (sz : Nat) : Met l yJ9_floorMod_f86c9 (ws_ yJ9_floorMod_f86c9 cJ9_floorMod_f86c9 6 (some .long)) R_J9_floorMod_f86c9 (PC D ([]) [.long x0, .long x1] ([]) sz) (QL D (va_A ([]) sz) ([]) q) 0 0 (va_A ([]) sz) := by
  refine va_MetF (cc := cJ9_floorMod_f86c9) (maxL := 6) (ret := (some .long)) (by decide +kernel) rfl ?_
  intro p e s m args below meth c s₁ B hml hv
  obtain ⟨rfl, hsz, hP, hK, hD, hN⟩ := hv
  subst hsz
  have C : Cx p s m _ meth c cJ9_floorMod_f86c9 (some .long) 6 RJ9 lw_all := Cx_of B hml
  have X := Hx_start hP hK hD hN
  obtain ⟨hx, hb, hr, -, hown, hts, hlk⟩ := id C
  generalize va_A ([]) s.heap.size = A at X ⊢
  have hl := lv_entry ([.long x0, .long x1]) (n := 6) (Nat.le_of_ble_eq_true rfl)
  rw [lg_entry_eq]
  generalize (lg_sl ([.long x0, .long x1]) ++ List.replicate (6 - (lg_sl ([.long x0, .long x1])).length) Slot.unset).toArray = ls at hl ⊢
  have hl : lv_has ls 6 [(0, .long x0), (2, .long x1)] := hl
  unfold f_J9_floorMod_f86c9 at hF
  refine lv_lload_n hx hb dJ9_floorMod_f86c9_0 rfl (lv_at hl 0 rfl) ?_
  refine lv_lload_n hx hb dJ9_floorMod_f86c9_1 rfl (lv_at hl 1 rfl) ?_
  obtain ⟨h_1, hF⟩ := grd_some hF
  refine lv_lrem hx hb dJ9_floorMod_f86c9_2 (nzL_ok h_1) ?_
  refine lv_lstore (lv' := [(4, .long (x0 - x0 / x1 * x1)), (0, .long x0), (2, .long x1)]) hx hb dJ9_floorMod_f86c9_3 hl (by decide) rfl (fun ls hl => ?_)
  refine lv_lload_n hx hb dJ9_floorMod_f86c9_5 rfl (lv_at hl 1 rfl) ?_
  refine lv_lload_n hx hb dJ9_floorMod_f86c9_6 rfl (lv_at hl 2 rfl) ?_
  refine lv_lxor hx hb dJ9_floorMod_f86c9_7 ?_
  refine lv_lconst (v := (0 : Int64)) hx hb dJ9_floorMod_f86c9_8 (by decide) ?_
  refine W.lcmp hx hb dJ9_floorMod_f86c9_9 ?_
  refine lv_if_ge (tgt := 25) hx hb dJ9_floorMod_f86c9_10 (by decide) (fun c => ?_) (fun c => ?_)
  · have c := (lg_cmp_ge _ _).mp c
    replace hF := iT c hF
    refine lv_lload hx hb dJ9_floorMod_f86c9_25 (lv_at hl 0 rfl) ?_
    have hq := Option.some.inj hF
    subst hq
    exact rt_l C X dJ9_floorMod_f86c9_27
  · have c := fun h => c ((lg_cmp_ge _ _).mpr h)
    replace hF := iF c hF
    refine lv_lload hx hb dJ9_floorMod_f86c9_13 (lv_at hl 0 rfl) ?_
    refine lv_lconst (v := (0 : Int64)) hx hb dJ9_floorMod_f86c9_15 (by decide) ?_
    refine W.lcmp hx hb dJ9_floorMod_f86c9_16 ?_
    refine lv_if_eq (tgt := 25) hx hb dJ9_floorMod_f86c9_17 (by decide) (fun c => ?_) (fun c => ?_)
    · have c := (lg_cmp_eq _ _).mp c
      replace hF := iT c hF
      refine lv_lload hx hb dJ9_floorMod_f86c9_25 (lv_at hl 0 rfl) ?_
      have hq := Option.some.inj hF
      subst hq
      exact rt_l C X dJ9_floorMod_f86c9_27
    · have c := fun h => c ((lg_cmp_eq _ _).mpr h)
      replace hF := iF c hF
      refine lv_lload hx hb dJ9_floorMod_f86c9_20 (lv_at hl 0 rfl) ?_
      refine lv_lload_n hx hb dJ9_floorMod_f86c9_22 rfl (lv_at hl 2 rfl) ?_
      refine lv_ladd hx hb dJ9_floorMod_f86c9_23 ?_
      have hq := Option.some.inj hF
      subst hq
      exact rt_l C X dJ9_floorMod_f86c9_24

/-! ### X11_isAboveZero -/
theorem dX11_isAboveZero_0 : decode cX11_isAboveZero 0 = .ok (.lload_n 0, 1) := by decide +kernel
theorem dX11_isAboveZero_1 : decode cX11_isAboveZero 1 = .ok (.lconst 0, 1) := by decide +kernel
theorem dX11_isAboveZero_2 : decode cX11_isAboveZero 2 = .ok (.lcmp, 1) := by decide +kernel
theorem dX11_isAboveZero_3 : decode cX11_isAboveZero 3 = .ok (.ifCond .le 14, 3) := by decide +kernel
theorem dX11_isAboveZero_6 : decode cX11_isAboveZero 6 = .ok (.lload_n 0, 1) := by decide +kernel
theorem dX11_isAboveZero_7 : decode cX11_isAboveZero 7 = .ok (.invokestatic 203, 3) := by decide +kernel
theorem dX11_isAboveZero_10 : decode cX11_isAboveZero 10 = .ok (.ifCond .eq 7, 3) := by decide +kernel
theorem dX11_isAboveZero_13 : decode cX11_isAboveZero 13 = .ok (.iconst 1, 1) := by decide +kernel
theorem dX11_isAboveZero_14 : decode cX11_isAboveZero 14 = .ok (.goto 4, 3) := by decide +kernel
theorem dX11_isAboveZero_17 : decode cX11_isAboveZero 17 = .ok (.iconst 0, 1) := by decide +kernel
theorem dX11_isAboveZero_18 : decode cX11_isAboveZero 18 = .ok (.ireturn, 1) := by decide +kernel
abbrev R_X11_isAboveZero : Room := ({ frames := 1, cells := 0, slots := 0, locals := 21 } : Room)
def f_X11_isAboveZero (x0 : Int64) : Option (Int32) :=
  if x0 ≤ (0 : Int64) then (some (0 : Int32)) else (bnd (f_X6_isFinite x0) (fun q_1 => if q_1 = 0 then (some (0 : Int32)) else (some (1 : Int32))))
set_option maxHeartbeats 4000000 in
set_option maxRecDepth 100000 in
theorem c_X11_isAboveZero (l : Launch) (D : Dx) (x0 : Int64) (q : Int32) (hF : f_X11_isAboveZero x0 = some q) (sz : Nat) : Met l yX11_isAboveZero (ws_ yX11_isAboveZero cX11_isAboveZero 2 (some .boolean)) R_X11_isAboveZero (PC D ([]) [.long x0] ([]) sz) (QI D (va_A ([]) sz) ([]) q) 0 0 (va_A ([]) sz) := by
  refine Met.ofW (cc := cX11_isAboveZero) (maxL := 2) (ret := (some .boolean)) (by decide) rfl ?_
  intro p e s m args below meth c s₁ B hml hv
  obtain ⟨rfl, hsz, hP, hK, hD, hN⟩ := hv
  subst hsz
  have C : Cx p s m _ meth c cX11_isAboveZero (some .boolean) 2 RX11 lw_all := Cx_of B hml
  have X := Hx_start hP hK hD hN
  obtain ⟨hx, hb, hr, -, hown, hts, hlk⟩ := id C
  generalize va_A ([]) s.heap.size = A at X ⊢
  have hl := lv_entry ([.long x0]) (n := 2) (Nat.le_of_ble_eq_true rfl)
  rw [lg_entry_eq]
  generalize (lg_sl ([.long x0]) ++ List.replicate (2 - (lg_sl ([.long x0])).length) Slot.unset).toArray = ls at hl ⊢
  have hl : lv_has ls 2 [(0, .long x0)] := hl
  unfold f_X11_isAboveZero at hF
  refine lv_lload_n hx hb dX11_isAboveZero_0 rfl (lv_at hl 0 rfl) ?_
  refine lv_lconst (v := (0 : Int64)) hx hb dX11_isAboveZero_1 (by decide) ?_
  refine W.lcmp hx hb dX11_isAboveZero_2 ?_
  refine lv_if_le (tgt := 17) hx hb dX11_isAboveZero_3 (by decide) (fun c => ?_) (fun c => ?_)
  · have c := (lg_cmp_le _ _).mp c
    replace hF := iT c hF
    refine lv_iconst (v := (0 : Int32)) hx hb dX11_isAboveZero_17 (by decide) ?_
    have hq := Option.some.inj hF
    subst hq
    exact rt_z (v := (0 : Int32)) C X (by decide) dX11_isAboveZero_18
  · have c := fun h => c ((lg_cmp_le _ _).mpr h)
    replace hF := iF c hF
    refine lv_lload_n hx hb dX11_isAboveZero_6 rfl (lv_at hl 0 rfl) ?_
    obtain ⟨q_1, hc_2, hF⟩ := bnd_some hF
    refine cS_i (As := [.long x0]) (rest := []) C X (c_X6_isFinite l D  x0 q_1 hc_2 _) (va_cwS 1 hts (good_S q5_204 q5_205 q1_2 q5_206) rfl rfl rfl (by decide +kernel) ⟨Nat.le_of_ble_eq_true rfl, Nat.le_of_ble_eq_true rfl⟩) (eK X) eP (eD (A := A)) (eF X) hl.1 rfl rfl (Nat.le_of_ble_eq_true rfl) dX11_isAboveZero_7 ⟨Nat.le_of_ble_eq_true rfl, Nat.le_of_ble_eq_true rfl⟩ (fun t H1 locs1 ht hB hk hS => ?_)
    have X := Hx_after_none X hk hS
    clear hk hS ht hB
    generalize H1 = H at X ⊢
    generalize locs1 = locs at X ⊢
    refine lv_if_eq (tgt := 17) hx hb dX11_isAboveZero_10 (by decide) (fun c => ?_) (fun c => ?_)
    · replace hF := iT c hF
      refine lv_iconst (v := (0 : Int32)) hx hb dX11_isAboveZero_17 (by decide) ?_
      have hq := Option.some.inj hF
      subst hq
      exact rt_z (v := (0 : Int32)) C X (by decide) dX11_isAboveZero_18
    · replace hF := iF c hF
      refine lv_iconst (v := (1 : Int32)) hx hb dX11_isAboveZero_13 (by decide) ?_
      refine lv_goto (tgt := 18) hx hb dX11_isAboveZero_14 (by decide) ?_
      have hq := Option.some.inj hF
      subst hq
      exact rt_z (v := (1 : Int32)) C X (by decide) dX11_isAboveZero_18

/-! ### X11_isLeap -/
theorem dX11_isLeap_0 : decode cX11_isLeap 0 = .ok (.iload_n 0, 1) := by decide +kernel
theorem dX11_isLeap_1 : decode cX11_isLeap 1 = .ok (.iconst 4, 1) := by decide +kernel
theorem dX11_isLeap_2 : decode cX11_isLeap 2 = .ok (.irem, 1) := by decide +kernel
theorem dX11_isLeap_3 : decode cX11_isLeap 3 = .ok (.ifCond .ne 22, 3) := by decide +kernel
theorem dX11_isLeap_6 : decode cX11_isLeap 6 = .ok (.iload_n 0, 1) := by decide +kernel
theorem dX11_isLeap_7 : decode cX11_isLeap 7 = .ok (.bipush 100, 2) := by decide +kernel
theorem dX11_isLeap_9 : decode cX11_isLeap 9 = .ok (.irem, 1) := by decide +kernel
theorem dX11_isLeap_10 : decode cX11_isLeap 10 = .ok (.ifCond .ne 11, 3) := by decide +kernel
theorem dX11_isLeap_13 : decode cX11_isLeap 13 = .ok (.iload_n 0, 1) := by decide +kernel
theorem dX11_isLeap_14 : decode cX11_isLeap 14 = .ok (.sipush 400, 3) := by decide +kernel
theorem dX11_isLeap_17 : decode cX11_isLeap 17 = .ok (.irem, 1) := by decide +kernel
theorem dX11_isLeap_18 : decode cX11_isLeap 18 = .ok (.ifCond .ne 7, 3) := by decide +kernel
theorem dX11_isLeap_21 : decode cX11_isLeap 21 = .ok (.iconst 1, 1) := by decide +kernel
theorem dX11_isLeap_22 : decode cX11_isLeap 22 = .ok (.goto 4, 3) := by decide +kernel
theorem dX11_isLeap_25 : decode cX11_isLeap 25 = .ok (.iconst 0, 1) := by decide +kernel
theorem dX11_isLeap_26 : decode cX11_isLeap 26 = .ok (.ireturn, 1) := by decide +kernel
abbrev R_X11_isLeap : Room := ({ frames := 0, cells := 0, slots := 0, locals := 0 } : Room)
def f_X11_isLeap (x0 : Int32) : Option (Int32) :=
  if (x0 - x0 / (4 : Int32) * (4 : Int32)) = 0 then (if (x0 - x0 / (100 : Int32) * (100 : Int32)) = 0 then (if (x0 - x0 / (400 : Int32) * (400 : Int32)) = 0 then (some (1 : Int32)) else (some (0 : Int32))) else (some (1 : Int32))) else (some (0 : Int32))
set_option maxHeartbeats 4000000 in
set_option maxRecDepth 100000 in
theorem c_X11_isLeap (l : Launch) (D : Dx) (x0 : Int32) (q : Int32) (hF : f_X11_isLeap x0 = some q) (sz : Nat) : Met l yX11_isLeap (ws_ yX11_isLeap cX11_isLeap 1 (some .boolean)) R_X11_isLeap (PC D ([]) [.int x0] ([]) sz) (QI D (va_A ([]) sz) ([]) q) 0 0 (va_A ([]) sz) := by
  refine Met.ofW (cc := cX11_isLeap) (maxL := 1) (ret := (some .boolean)) (by decide) rfl ?_
  intro p e s m args below meth c s₁ B hml hv
  obtain ⟨rfl, hsz, hP, hK, hD, hN⟩ := hv
  subst hsz
  have C : Cx p s m _ meth c cX11_isLeap (some .boolean) 1 RX11 lw_all := Cx_of B hml
  have X := Hx_start hP hK hD hN
  obtain ⟨hx, hb, hr, -, hown, hts, hlk⟩ := id C
  generalize va_A ([]) s.heap.size = A at X ⊢
  have hl := lv_entry ([.int x0]) (n := 1) (Nat.le_of_ble_eq_true rfl)
  rw [lg_entry_eq]
  generalize (lg_sl ([.int x0]) ++ List.replicate (1 - (lg_sl ([.int x0])).length) Slot.unset).toArray = ls at hl ⊢
  have hl : lv_has ls 1 [(0, .int x0)] := hl
  unfold f_X11_isLeap at hF
  refine lv_iload_n hx hb dX11_isLeap_0 rfl (lv_at hl 0 rfl) ?_
  refine lv_iconst (v := (4 : Int32)) hx hb dX11_isLeap_1 (by decide) ?_
  refine lv_irem hx hb dX11_isLeap_2 (by decide) ?_
  refine lv_if_ne (tgt := 25) hx hb dX11_isLeap_3 (by decide) (fun c => ?_) (fun c => ?_)
  · replace hF := iF c hF
    refine lv_iconst (v := (0 : Int32)) hx hb dX11_isLeap_25 (by decide) ?_
    have hq := Option.some.inj hF
    subst hq
    exact rt_z (v := (0 : Int32)) C X (by decide) dX11_isLeap_26
  · replace hF := iT c hF
    refine lv_iload_n hx hb dX11_isLeap_6 rfl (lv_at hl 0 rfl) ?_
    refine lv_bipush (v := (100 : Int32)) hx hb dX11_isLeap_7 (by decide) ?_
    refine lv_irem hx hb dX11_isLeap_9 (by decide) ?_
    refine lv_if_ne (tgt := 21) hx hb dX11_isLeap_10 (by decide) (fun c => ?_) (fun c => ?_)
    · replace hF := iF c hF
      refine lv_iconst (v := (1 : Int32)) hx hb dX11_isLeap_21 (by decide) ?_
      refine lv_goto (tgt := 26) hx hb dX11_isLeap_22 (by decide) ?_
      have hq := Option.some.inj hF
      subst hq
      exact rt_z (v := (1 : Int32)) C X (by decide) dX11_isLeap_26
    · replace hF := iT c hF
      refine lv_iload_n hx hb dX11_isLeap_13 rfl (lv_at hl 0 rfl) ?_
      refine lv_sipush (v := (400 : Int32)) hx hb dX11_isLeap_14 (by decide) ?_
      refine lv_irem hx hb dX11_isLeap_17 (by decide) ?_
      refine lv_if_ne (tgt := 25) hx hb dX11_isLeap_18 (by decide) (fun c => ?_) (fun c => ?_)
      · replace hF := iF c hF
        refine lv_iconst (v := (0 : Int32)) hx hb dX11_isLeap_25 (by decide) ?_
        have hq := Option.some.inj hF
        subst hq
        exact rt_z (v := (0 : Int32)) C X (by decide) dX11_isLeap_26
      · replace hF := iT c hF
        refine lv_iconst (v := (1 : Int32)) hx hb dX11_isLeap_21 (by decide) ?_
        refine lv_goto (tgt := 26) hx hb dX11_isLeap_22 (by decide) ?_
        have hq := Option.some.inj hF
        subst hq
        exact rt_z (v := (1 : Int32)) C X (by decide) dX11_isLeap_26

/-! ### X11_dateOf -/
theorem dX11_dateOf_0 : decode cX11_dateOf 0 = .ok (.iload_n 0, 1) := by decide +kernel
theorem dX11_dateOf_1 : decode cX11_dateOf 1 = .ok (.ldc_w 329, 3) := by decide +kernel
theorem dX11_dateOf_4 : decode cX11_dateOf 4 = .ok (.iadd, 1) := by decide +kernel
theorem dX11_dateOf_5 : decode cX11_dateOf 5 = .ok (.istore_n 2, 1) := by decide +kernel
theorem dX11_dateOf_6 : decode cX11_dateOf 6 = .ok (.iload_n 2, 1) := by decide +kernel
theorem dX11_dateOf_7 : decode cX11_dateOf 7 = .ok (.ldc_w 330, 3) := by decide +kernel
theorem dX11_dateOf_10 : decode cX11_dateOf 10 = .ok (.invokestatic 331, 3) := by decide +kernel
theorem dX11_dateOf_13 : decode cX11_dateOf 13 = .ok (.istore_n 3, 1) := by decide +kernel
theorem dX11_dateOf_14 : decode cX11_dateOf 14 = .ok (.iload_n 2, 1) := by decide +kernel
theorem dX11_dateOf_15 : decode cX11_dateOf 15 = .ok (.iload_n 3, 1) := by decide +kernel
theorem dX11_dateOf_16 : decode cX11_dateOf 16 = .ok (.ldc_w 330, 3) := by decide +kernel
theorem dX11_dateOf_19 : decode cX11_dateOf 19 = .ok (.imul, 1) := by decide +kernel
theorem dX11_dateOf_20 : decode cX11_dateOf 20 = .ok (.isub, 1) := by decide +kernel
theorem dX11_dateOf_21 : decode cX11_dateOf 21 = .ok (.istore 4, 2) := by decide +kernel
theorem dX11_dateOf_23 : decode cX11_dateOf 23 = .ok (.iload 4, 2) := by decide +kernel
theorem dX11_dateOf_25 : decode cX11_dateOf 25 = .ok (.iload 4, 2) := by decide +kernel
theorem dX11_dateOf_27 : decode cX11_dateOf 27 = .ok (.sipush 1460, 3) := by decide +kernel
theorem dX11_dateOf_30 : decode cX11_dateOf 30 = .ok (.idiv, 1) := by decide +kernel
theorem dX11_dateOf_31 : decode cX11_dateOf 31 = .ok (.isub, 1) := by decide +kernel
theorem dX11_dateOf_32 : decode cX11_dateOf 32 = .ok (.iload 4, 2) := by decide +kernel
theorem dX11_dateOf_34 : decode cX11_dateOf 34 = .ok (.ldc_w 334, 3) := by decide +kernel
theorem dX11_dateOf_37 : decode cX11_dateOf 37 = .ok (.idiv, 1) := by decide +kernel
theorem dX11_dateOf_38 : decode cX11_dateOf 38 = .ok (.iadd, 1) := by decide +kernel
theorem dX11_dateOf_39 : decode cX11_dateOf 39 = .ok (.iload 4, 2) := by decide +kernel
theorem dX11_dateOf_41 : decode cX11_dateOf 41 = .ok (.ldc_w 335, 3) := by decide +kernel
theorem dX11_dateOf_44 : decode cX11_dateOf 44 = .ok (.idiv, 1) := by decide +kernel
theorem dX11_dateOf_45 : decode cX11_dateOf 45 = .ok (.isub, 1) := by decide +kernel
theorem dX11_dateOf_46 : decode cX11_dateOf 46 = .ok (.sipush 365, 3) := by decide +kernel
theorem dX11_dateOf_49 : decode cX11_dateOf 49 = .ok (.idiv, 1) := by decide +kernel
theorem dX11_dateOf_50 : decode cX11_dateOf 50 = .ok (.istore 5, 2) := by decide +kernel
theorem dX11_dateOf_52 : decode cX11_dateOf 52 = .ok (.iload 4, 2) := by decide +kernel
theorem dX11_dateOf_54 : decode cX11_dateOf 54 = .ok (.sipush 365, 3) := by decide +kernel
theorem dX11_dateOf_57 : decode cX11_dateOf 57 = .ok (.iload 5, 2) := by decide +kernel
theorem dX11_dateOf_59 : decode cX11_dateOf 59 = .ok (.imul, 1) := by decide +kernel
theorem dX11_dateOf_60 : decode cX11_dateOf 60 = .ok (.iload 5, 2) := by decide +kernel
theorem dX11_dateOf_62 : decode cX11_dateOf 62 = .ok (.iconst 4, 1) := by decide +kernel
theorem dX11_dateOf_63 : decode cX11_dateOf 63 = .ok (.idiv, 1) := by decide +kernel
theorem dX11_dateOf_64 : decode cX11_dateOf 64 = .ok (.iadd, 1) := by decide +kernel
theorem dX11_dateOf_65 : decode cX11_dateOf 65 = .ok (.iload 5, 2) := by decide +kernel
theorem dX11_dateOf_67 : decode cX11_dateOf 67 = .ok (.bipush 100, 2) := by decide +kernel
theorem dX11_dateOf_69 : decode cX11_dateOf 69 = .ok (.idiv, 1) := by decide +kernel
theorem dX11_dateOf_70 : decode cX11_dateOf 70 = .ok (.isub, 1) := by decide +kernel
theorem dX11_dateOf_71 : decode cX11_dateOf 71 = .ok (.isub, 1) := by decide +kernel
theorem dX11_dateOf_72 : decode cX11_dateOf 72 = .ok (.istore 6, 2) := by decide +kernel
theorem dX11_dateOf_74 : decode cX11_dateOf 74 = .ok (.iconst 5, 1) := by decide +kernel
theorem dX11_dateOf_75 : decode cX11_dateOf 75 = .ok (.iload 6, 2) := by decide +kernel
theorem dX11_dateOf_77 : decode cX11_dateOf 77 = .ok (.imul, 1) := by decide +kernel
theorem dX11_dateOf_78 : decode cX11_dateOf 78 = .ok (.iconst 2, 1) := by decide +kernel
theorem dX11_dateOf_79 : decode cX11_dateOf 79 = .ok (.iadd, 1) := by decide +kernel
theorem dX11_dateOf_80 : decode cX11_dateOf 80 = .ok (.sipush 153, 3) := by decide +kernel
theorem dX11_dateOf_83 : decode cX11_dateOf 83 = .ok (.idiv, 1) := by decide +kernel
theorem dX11_dateOf_84 : decode cX11_dateOf 84 = .ok (.istore 7, 2) := by decide +kernel
theorem dX11_dateOf_86 : decode cX11_dateOf 86 = .ok (.iload 6, 2) := by decide +kernel
theorem dX11_dateOf_88 : decode cX11_dateOf 88 = .ok (.sipush 153, 3) := by decide +kernel
theorem dX11_dateOf_91 : decode cX11_dateOf 91 = .ok (.iload 7, 2) := by decide +kernel
theorem dX11_dateOf_93 : decode cX11_dateOf 93 = .ok (.imul, 1) := by decide +kernel
theorem dX11_dateOf_94 : decode cX11_dateOf 94 = .ok (.iconst 2, 1) := by decide +kernel
theorem dX11_dateOf_95 : decode cX11_dateOf 95 = .ok (.iadd, 1) := by decide +kernel
theorem dX11_dateOf_96 : decode cX11_dateOf 96 = .ok (.iconst 5, 1) := by decide +kernel
theorem dX11_dateOf_97 : decode cX11_dateOf 97 = .ok (.idiv, 1) := by decide +kernel
theorem dX11_dateOf_98 : decode cX11_dateOf 98 = .ok (.isub, 1) := by decide +kernel
theorem dX11_dateOf_99 : decode cX11_dateOf 99 = .ok (.iconst 1, 1) := by decide +kernel
theorem dX11_dateOf_100 : decode cX11_dateOf 100 = .ok (.iadd, 1) := by decide +kernel
theorem dX11_dateOf_101 : decode cX11_dateOf 101 = .ok (.istore 8, 2) := by decide +kernel
theorem dX11_dateOf_103 : decode cX11_dateOf 103 = .ok (.iload 7, 2) := by decide +kernel
theorem dX11_dateOf_105 : decode cX11_dateOf 105 = .ok (.bipush 10, 2) := by decide +kernel
theorem dX11_dateOf_107 : decode cX11_dateOf 107 = .ok (.if_icmp .ge 10, 3) := by decide +kernel
theorem dX11_dateOf_110 : decode cX11_dateOf 110 = .ok (.iload 7, 2) := by decide +kernel
theorem dX11_dateOf_112 : decode cX11_dateOf 112 = .ok (.iconst 3, 1) := by decide +kernel
theorem dX11_dateOf_113 : decode cX11_dateOf 113 = .ok (.iadd, 1) := by decide +kernel
theorem dX11_dateOf_114 : decode cX11_dateOf 114 = .ok (.goto 8, 3) := by decide +kernel
theorem dX11_dateOf_117 : decode cX11_dateOf 117 = .ok (.iload 7, 2) := by decide +kernel
theorem dX11_dateOf_119 : decode cX11_dateOf 119 = .ok (.bipush 9, 2) := by decide +kernel
theorem dX11_dateOf_121 : decode cX11_dateOf 121 = .ok (.isub, 1) := by decide +kernel
theorem dX11_dateOf_122 : decode cX11_dateOf 122 = .ok (.istore 9, 2) := by decide +kernel
theorem dX11_dateOf_124 : decode cX11_dateOf 124 = .ok (.iload 5, 2) := by decide +kernel
theorem dX11_dateOf_126 : decode cX11_dateOf 126 = .ok (.iload_n 3, 1) := by decide +kernel
theorem dX11_dateOf_127 : decode cX11_dateOf 127 = .ok (.sipush 400, 3) := by decide +kernel
theorem dX11_dateOf_130 : decode cX11_dateOf 130 = .ok (.imul, 1) := by decide +kernel
theorem dX11_dateOf_131 : decode cX11_dateOf 131 = .ok (.iadd, 1) := by decide +kernel
theorem dX11_dateOf_132 : decode cX11_dateOf 132 = .ok (.iload 9, 2) := by decide +kernel
theorem dX11_dateOf_134 : decode cX11_dateOf 134 = .ok (.iconst 2, 1) := by decide +kernel
theorem dX11_dateOf_135 : decode cX11_dateOf 135 = .ok (.if_icmp .gt 7, 3) := by decide +kernel
theorem dX11_dateOf_138 : decode cX11_dateOf 138 = .ok (.iconst 1, 1) := by decide +kernel
theorem dX11_dateOf_139 : decode cX11_dateOf 139 = .ok (.goto 4, 3) := by decide +kernel
theorem dX11_dateOf_142 : decode cX11_dateOf 142 = .ok (.iconst 0, 1) := by decide +kernel
theorem dX11_dateOf_143 : decode cX11_dateOf 143 = .ok (.iadd, 1) := by decide +kernel
theorem dX11_dateOf_144 : decode cX11_dateOf 144 = .ok (.istore 10, 2) := by decide +kernel
theorem dX11_dateOf_146 : decode cX11_dateOf 146 = .ok (.iload_n 1, 1) := by decide +kernel
theorem dX11_dateOf_147 : decode cX11_dateOf 147 = .ok (.tableswitch 34 0 2 #[25, 28, 31], 25) := by decide +kernel
theorem dX11_dateOf_172 : decode cX11_dateOf 172 = .ok (.iload 10, 2) := by decide +kernel
theorem dX11_dateOf_174 : decode cX11_dateOf 174 = .ok (.ireturn, 1) := by decide +kernel
theorem dX11_dateOf_175 : decode cX11_dateOf 175 = .ok (.iload 9, 2) := by decide +kernel
theorem dX11_dateOf_177 : decode cX11_dateOf 177 = .ok (.ireturn, 1) := by decide +kernel
theorem dX11_dateOf_178 : decode cX11_dateOf 178 = .ok (.iload 8, 2) := by decide +kernel
theorem dX11_dateOf_180 : decode cX11_dateOf 180 = .ok (.ireturn, 1) := by decide +kernel
theorem dX11_dateOf_181 : decode cX11_dateOf 181 = .ok (.getstatic 336, 3) := by decide +kernel
theorem dX11_dateOf_184 : decode cX11_dateOf 184 = .ok (.iload 9, 2) := by decide +kernel
theorem dX11_dateOf_186 : decode cX11_dateOf 186 = .ok (.iconst 1, 1) := by decide +kernel
theorem dX11_dateOf_187 : decode cX11_dateOf 187 = .ok (.isub, 1) := by decide +kernel
theorem dX11_dateOf_188 : decode cX11_dateOf 188 = .ok (.iaload, 1) := by decide +kernel
theorem dX11_dateOf_189 : decode cX11_dateOf 189 = .ok (.iload 8, 2) := by decide +kernel
theorem dX11_dateOf_191 : decode cX11_dateOf 191 = .ok (.iadd, 1) := by decide +kernel
theorem dX11_dateOf_192 : decode cX11_dateOf 192 = .ok (.iload 9, 2) := by decide +kernel
theorem dX11_dateOf_194 : decode cX11_dateOf 194 = .ok (.iconst 2, 1) := by decide +kernel
theorem dX11_dateOf_195 : decode cX11_dateOf 195 = .ok (.if_icmp .le 15, 3) := by decide +kernel
theorem dX11_dateOf_198 : decode cX11_dateOf 198 = .ok (.iload 10, 2) := by decide +kernel
theorem dX11_dateOf_200 : decode cX11_dateOf 200 = .ok (.invokestatic 339, 3) := by decide +kernel
theorem dX11_dateOf_203 : decode cX11_dateOf 203 = .ok (.ifCond .eq 7, 3) := by decide +kernel
theorem dX11_dateOf_206 : decode cX11_dateOf 206 = .ok (.iconst 1, 1) := by decide +kernel
theorem dX11_dateOf_207 : decode cX11_dateOf 207 = .ok (.goto 4, 3) := by decide +kernel
theorem dX11_dateOf_210 : decode cX11_dateOf 210 = .ok (.iconst 0, 1) := by decide +kernel
theorem dX11_dateOf_211 : decode cX11_dateOf 211 = .ok (.iadd, 1) := by decide +kernel
theorem dX11_dateOf_212 : decode cX11_dateOf 212 = .ok (.ireturn, 1) := by decide +kernel
abbrev R_X11_dateOf : Room := ({ frames := 1, cells := 0, slots := 0, locals := 22 } : Room)
def b_X11_dateOf_143 (v1 : Int32) (v8 : Int32) (v9 : Int32) (s0 : Int32) (s1 : Int32) : Option (Int32) :=
  if v1 = (0 : Int32) then (some (s1 + s0)) else (if v1 = (1 : Int32) then (some v9) else (if v1 = (2 : Int32) then (some v8) else (grd (inB (v9 - (1 : Int32)) 12) (if v9 ≤ (2 : Int32) then (some (((daysL.getD (v9 - (1 : Int32)).toNatClampNeg 0) + v8) + (0 : Int32))) else (bnd (f_X11_isLeap (s1 + s0)) (fun q_4 => if q_4 = 0 then (some (((daysL.getD (v9 - (1 : Int32)).toNatClampNeg 0) + v8) + (0 : Int32))) else (some (((daysL.getD (v9 - (1 : Int32)).toNatClampNeg 0) + v8) + (1 : Int32)))))))))
def b_X11_dateOf_122 (v1 : Int32) (v3 : Int32) (v5 : Int32) (v8 : Int32) (s0 : Int32) : Option (Int32) :=
  if (2 : Int32) < s0 then (b_X11_dateOf_143 v1 v8 s0 (0 : Int32) (v5 + (v3 * (400 : Int32)))) else (b_X11_dateOf_143 v1 v8 s0 (1 : Int32) (v5 + (v3 * (400 : Int32))))
def f_X11_dateOf (x0 : Int32) (x1 : Int32) : Option (Int32) :=
  bnd (f_J9_floorDiv_7cf53 (x0 + (719468 : Int32)) (146097 : Int32)) (fun q_1 => if (10 : Int32) ≤ ((((5 : Int32) * (((x0 + (719468 : Int32)) - (q_1 * (146097 : Int32))) - ((((365 : Int32) * ((((((x0 + (719468 : Int32)) - (q_1 * (146097 : Int32))) - (((x0 + (719468 : Int32)) - (q_1 * (146097 : Int32))) / (1460 : Int32))) + (((x0 + (719468 : Int32)) - (q_1 * (146097 : Int32))) / (36524 : Int32))) - (((x0 + (719468 : Int32)) - (q_1 * (146097 : Int32))) / (146096 : Int32))) / (365 : Int32))) + (((((((x0 + (719468 : Int32)) - (q_1 * (146097 : Int32))) - (((x0 + (719468 : Int32)) - (q_1 * (146097 : Int32))) / (1460 : Int32))) + (((x0 + (719468 : Int32)) - (q_1 * (146097 : Int32))) / (36524 : Int32))) - (((x0 + (719468 : Int32)) - (q_1 * (146097 : Int32))) / (146096 : Int32))) / (365 : Int32)) / (4 : Int32))) - (((((((x0 + (719468 : Int32)) - (q_1 * (146097 : Int32))) - (((x0 + (719468 : Int32)) - (q_1 * (146097 : Int32))) / (1460 : Int32))) + (((x0 + (719468 : Int32)) - (q_1 * (146097 : Int32))) / (36524 : Int32))) - (((x0 + (719468 : Int32)) - (q_1 * (146097 : Int32))) / (146096 : Int32))) / (365 : Int32)) / (100 : Int32))))) + (2 : Int32)) / (153 : Int32)) then (b_X11_dateOf_122 x1 q_1 ((((((x0 + (719468 : Int32)) - (q_1 * (146097 : Int32))) - (((x0 + (719468 : Int32)) - (q_1 * (146097 : Int32))) / (1460 : Int32))) + (((x0 + (719468 : Int32)) - (q_1 * (146097 : Int32))) / (36524 : Int32))) - (((x0 + (719468 : Int32)) - (q_1 * (146097 : Int32))) / (146096 : Int32))) / (365 : Int32)) (((((x0 + (719468 : Int32)) - (q_1 * (146097 : Int32))) - ((((365 : Int32) * ((((((x0 + (719468 : Int32)) - (q_1 * (146097 : Int32))) - (((x0 + (719468 : Int32)) - (q_1 * (146097 : Int32))) / (1460 : Int32))) + (((x0 + (719468 : Int32)) - (q_1 * (146097 : Int32))) / (36524 : Int32))) - (((x0 + (719468 : Int32)) - (q_1 * (146097 : Int32))) / (146096 : Int32))) / (365 : Int32))) + (((((((x0 + (719468 : Int32)) - (q_1 * (146097 : Int32))) - (((x0 + (719468 : Int32)) - (q_1 * (146097 : Int32))) / (1460 : Int32))) + (((x0 + (719468 : Int32)) - (q_1 * (146097 : Int32))) / (36524 : Int32))) - (((x0 + (719468 : Int32)) - (q_1 * (146097 : Int32))) / (146096 : Int32))) / (365 : Int32)) / (4 : Int32))) - (((((((x0 + (719468 : Int32)) - (q_1 * (146097 : Int32))) - (((x0 + (719468 : Int32)) - (q_1 * (146097 : Int32))) / (1460 : Int32))) + (((x0 + (719468 : Int32)) - (q_1 * (146097 : Int32))) / (36524 : Int32))) - (((x0 + (719468 : Int32)) - (q_1 * (146097 : Int32))) / (146096 : Int32))) / (365 : Int32)) / (100 : Int32)))) - ((((153 : Int32) * ((((5 : Int32) * (((x0 + (719468 : Int32)) - (q_1 * (146097 : Int32))) - ((((365 : Int32) * ((((((x0 + (719468 : Int32)) - (q_1 * (146097 : Int32))) - (((x0 + (719468 : Int32)) - (q_1 * (146097 : Int32))) / (1460 : Int32))) + (((x0 + (719468 : Int32)) - (q_1 * (146097 : Int32))) / (36524 : Int32))) - (((x0 + (719468 : Int32)) - (q_1 * (146097 : Int32))) / (146096 : Int32))) / (365 : Int32))) + (((((((x0 + (719468 : Int32)) - (q_1 * (146097 : Int32))) - (((x0 + (719468 : Int32)) - (q_1 * (146097 : Int32))) / (1460 : Int32))) + (((x0 + (719468 : Int32)) - (q_1 * (146097 : Int32))) / (36524 : Int32))) - (((x0 + (719468 : Int32)) - (q_1 * (146097 : Int32))) / (146096 : Int32))) / (365 : Int32)) / (4 : Int32))) - (((((((x0 + (719468 : Int32)) - (q_1 * (146097 : Int32))) - (((x0 + (719468 : Int32)) - (q_1 * (146097 : Int32))) / (1460 : Int32))) + (((x0 + (719468 : Int32)) - (q_1 * (146097 : Int32))) / (36524 : Int32))) - (((x0 + (719468 : Int32)) - (q_1 * (146097 : Int32))) / (146096 : Int32))) / (365 : Int32)) / (100 : Int32))))) + (2 : Int32)) / (153 : Int32))) + (2 : Int32)) / (5 : Int32))) + (1 : Int32)) (((((5 : Int32) * (((x0 + (719468 : Int32)) - (q_1 * (146097 : Int32))) - ((((365 : Int32) * ((((((x0 + (719468 : Int32)) - (q_1 * (146097 : Int32))) - (((x0 + (719468 : Int32)) - (q_1 * (146097 : Int32))) / (1460 : Int32))) + (((x0 + (719468 : Int32)) - (q_1 * (146097 : Int32))) / (36524 : Int32))) - (((x0 + (719468 : Int32)) - (q_1 * (146097 : Int32))) / (146096 : Int32))) / (365 : Int32))) + (((((((x0 + (719468 : Int32)) - (q_1 * (146097 : Int32))) - (((x0 + (719468 : Int32)) - (q_1 * (146097 : Int32))) / (1460 : Int32))) + (((x0 + (719468 : Int32)) - (q_1 * (146097 : Int32))) / (36524 : Int32))) - (((x0 + (719468 : Int32)) - (q_1 * (146097 : Int32))) / (146096 : Int32))) / (365 : Int32)) / (4 : Int32))) - (((((((x0 + (719468 : Int32)) - (q_1 * (146097 : Int32))) - (((x0 + (719468 : Int32)) - (q_1 * (146097 : Int32))) / (1460 : Int32))) + (((x0 + (719468 : Int32)) - (q_1 * (146097 : Int32))) / (36524 : Int32))) - (((x0 + (719468 : Int32)) - (q_1 * (146097 : Int32))) / (146096 : Int32))) / (365 : Int32)) / (100 : Int32))))) + (2 : Int32)) / (153 : Int32)) - (9 : Int32))) else (b_X11_dateOf_122 x1 q_1 ((((((x0 + (719468 : Int32)) - (q_1 * (146097 : Int32))) - (((x0 + (719468 : Int32)) - (q_1 * (146097 : Int32))) / (1460 : Int32))) + (((x0 + (719468 : Int32)) - (q_1 * (146097 : Int32))) / (36524 : Int32))) - (((x0 + (719468 : Int32)) - (q_1 * (146097 : Int32))) / (146096 : Int32))) / (365 : Int32)) (((((x0 + (719468 : Int32)) - (q_1 * (146097 : Int32))) - ((((365 : Int32) * ((((((x0 + (719468 : Int32)) - (q_1 * (146097 : Int32))) - (((x0 + (719468 : Int32)) - (q_1 * (146097 : Int32))) / (1460 : Int32))) + (((x0 + (719468 : Int32)) - (q_1 * (146097 : Int32))) / (36524 : Int32))) - (((x0 + (719468 : Int32)) - (q_1 * (146097 : Int32))) / (146096 : Int32))) / (365 : Int32))) + (((((((x0 + (719468 : Int32)) - (q_1 * (146097 : Int32))) - (((x0 + (719468 : Int32)) - (q_1 * (146097 : Int32))) / (1460 : Int32))) + (((x0 + (719468 : Int32)) - (q_1 * (146097 : Int32))) / (36524 : Int32))) - (((x0 + (719468 : Int32)) - (q_1 * (146097 : Int32))) / (146096 : Int32))) / (365 : Int32)) / (4 : Int32))) - (((((((x0 + (719468 : Int32)) - (q_1 * (146097 : Int32))) - (((x0 + (719468 : Int32)) - (q_1 * (146097 : Int32))) / (1460 : Int32))) + (((x0 + (719468 : Int32)) - (q_1 * (146097 : Int32))) / (36524 : Int32))) - (((x0 + (719468 : Int32)) - (q_1 * (146097 : Int32))) / (146096 : Int32))) / (365 : Int32)) / (100 : Int32)))) - ((((153 : Int32) * ((((5 : Int32) * (((x0 + (719468 : Int32)) - (q_1 * (146097 : Int32))) - ((((365 : Int32) * ((((((x0 + (719468 : Int32)) - (q_1 * (146097 : Int32))) - (((x0 + (719468 : Int32)) - (q_1 * (146097 : Int32))) / (1460 : Int32))) + (((x0 + (719468 : Int32)) - (q_1 * (146097 : Int32))) / (36524 : Int32))) - (((x0 + (719468 : Int32)) - (q_1 * (146097 : Int32))) / (146096 : Int32))) / (365 : Int32))) + (((((((x0 + (719468 : Int32)) - (q_1 * (146097 : Int32))) - (((x0 + (719468 : Int32)) - (q_1 * (146097 : Int32))) / (1460 : Int32))) + (((x0 + (719468 : Int32)) - (q_1 * (146097 : Int32))) / (36524 : Int32))) - (((x0 + (719468 : Int32)) - (q_1 * (146097 : Int32))) / (146096 : Int32))) / (365 : Int32)) / (4 : Int32))) - (((((((x0 + (719468 : Int32)) - (q_1 * (146097 : Int32))) - (((x0 + (719468 : Int32)) - (q_1 * (146097 : Int32))) / (1460 : Int32))) + (((x0 + (719468 : Int32)) - (q_1 * (146097 : Int32))) / (36524 : Int32))) - (((x0 + (719468 : Int32)) - (q_1 * (146097 : Int32))) / (146096 : Int32))) / (365 : Int32)) / (100 : Int32))))) + (2 : Int32)) / (153 : Int32))) + (2 : Int32)) / (5 : Int32))) + (1 : Int32)) (((((5 : Int32) * (((x0 + (719468 : Int32)) - (q_1 * (146097 : Int32))) - ((((365 : Int32) * ((((((x0 + (719468 : Int32)) - (q_1 * (146097 : Int32))) - (((x0 + (719468 : Int32)) - (q_1 * (146097 : Int32))) / (1460 : Int32))) + (((x0 + (719468 : Int32)) - (q_1 * (146097 : Int32))) / (36524 : Int32))) - (((x0 + (719468 : Int32)) - (q_1 * (146097 : Int32))) / (146096 : Int32))) / (365 : Int32))) + (((((((x0 + (719468 : Int32)) - (q_1 * (146097 : Int32))) - (((x0 + (719468 : Int32)) - (q_1 * (146097 : Int32))) / (1460 : Int32))) + (((x0 + (719468 : Int32)) - (q_1 * (146097 : Int32))) / (36524 : Int32))) - (((x0 + (719468 : Int32)) - (q_1 * (146097 : Int32))) / (146096 : Int32))) / (365 : Int32)) / (4 : Int32))) - (((((((x0 + (719468 : Int32)) - (q_1 * (146097 : Int32))) - (((x0 + (719468 : Int32)) - (q_1 * (146097 : Int32))) / (1460 : Int32))) + (((x0 + (719468 : Int32)) - (q_1 * (146097 : Int32))) / (36524 : Int32))) - (((x0 + (719468 : Int32)) - (q_1 * (146097 : Int32))) / (146096 : Int32))) / (365 : Int32)) / (100 : Int32))))) + (2 : Int32)) / (153 : Int32)) + (3 : Int32))))
def S_X11_dateOf_143 (l : Launch) (D : Dx) (fn : Int32 → Int32 → Int32 → Int32 → Int32 → Option (Int32)) : Prop :=
  ∀ {p : Program} {e : Env} {s : State} {m : MethodId} {args : Array Value} {below : List Frame} {meth : Method} {c : Code} {H : Heap} {locs : List Loc} {A : Nat → Prop} {ls : Array Slot} {v1 : Int32} {v8 : Int32} {v9 : Int32} {s0 : Int32} {s1 : Int32} {q : Int32}, Cx p s m args meth c cX11_dateOf (some .int) 11 RX11 lw_all → Hx D ([]) A s H locs ([]) → lv_has ls 11 [(1, .int v1), (8, .int v8), (9, .int v9)] → fn v1 v8 v9 s0 s1 = some q → W p l e R_X11_dateOf s m args below meth c H locs 0 0 (MQ below (QI D A ([]) q) args s 0 0 A) (F0 m 143 ls [.int s0, .int s1])
def S_X11_dateOf_122 (l : Launch) (D : Dx) (fn : Int32 → Int32 → Int32 → Int32 → Int32 → Option (Int32)) : Prop :=
  ∀ {p : Program} {e : Env} {s : State} {m : MethodId} {args : Array Value} {below : List Frame} {meth : Method} {c : Code} {H : Heap} {locs : List Loc} {A : Nat → Prop} {ls : Array Slot} {v1 : Int32} {v3 : Int32} {v5 : Int32} {v8 : Int32} {s0 : Int32} {q : Int32}, Cx p s m args meth c cX11_dateOf (some .int) 11 RX11 lw_all → Hx D ([]) A s H locs ([]) → lv_has ls 11 [(1, .int v1), (3, .int v3), (5, .int v5), (8, .int v8)] → fn v1 v3 v5 v8 s0 = some q → W p l e R_X11_dateOf s m args below meth c H locs 0 0 (MQ below (QI D A ([]) q) args s 0 0 A) (F0 m 122 ls [.int s0])
set_option maxHeartbeats 4000000 in
set_option maxRecDepth 100000 in
theorem k_X11_dateOf_143 (l : Launch) (D : Dx) : S_X11_dateOf_143 l D (b_X11_dateOf_143) := by
  intro p e s m args below meth c H locs A ls v1 v8 v9 s0 s1 q C X hl hF
  obtain ⟨hx, hb, hr, hml, hown, hts, hlk⟩ := id C
  unfold b_X11_dateOf_143 at hF
  refine lv_iadd hx hb dX11_dateOf_143 ?_
  refine lv_istore (lv' := [(10, .int (s1 + s0)), (1, .int v1), (8, .int v8), (9, .int v9)]) hx hb dX11_dateOf_144 hl (by decide) rfl (fun ls hl => ?_)
  refine lv_iload_n hx hb dX11_dateOf_146 rfl (lv_at hl 1 rfl) ?_
  by_cases c0 : v1 = (0 : Int32)
  · replace hF := iT c0 hF
    refine lv_tableIn (tgt := 172) (off := 25) hx hb dX11_dateOf_147 (by rw [c0]; decide) (by rw [c0]; decide) (by rw [c0]; rfl) (by decide) ?_
    refine lv_iload hx hb dX11_dateOf_172 (lv_at hl 0 rfl) ?_
    have hq := Option.some.inj hF
    subst hq
    exact rt_i C X dX11_dateOf_174
  · replace hF := iF c0 hF
    by_cases c1 : v1 = (1 : Int32)
    · replace hF := iT c1 hF
      refine lv_tableIn (tgt := 175) (off := 28) hx hb dX11_dateOf_147 (by rw [c1]; decide) (by rw [c1]; decide) (by rw [c1]; rfl) (by decide) ?_
      refine lv_iload hx hb dX11_dateOf_175 (lv_at hl 3 rfl) ?_
      have hq := Option.some.inj hF
      subst hq
      exact rt_i C X dX11_dateOf_177
    · replace hF := iF c1 hF
      by_cases c2 : v1 = (2 : Int32)
      · replace hF := iT c2 hF
        refine lv_tableIn (tgt := 178) (off := 31) hx hb dX11_dateOf_147 (by rw [c2]; decide) (by rw [c2]; decide) (by rw [c2]; rfl) (by decide) ?_
        refine lv_iload hx hb dX11_dateOf_178 (lv_at hl 2 rfl) ?_
        have hq := Option.some.inj hF
        subst hq
        exact rt_i C X dX11_dateOf_180
      · replace hF := iF c2 hF
        refine lv_tableOut (tgt := 181) hx hb dX11_dateOf_147 (tbl_out (0) (2) 3 (by decide) ⟨tne c0 (by decide), ⟨tne c1 (by decide), ⟨tne c2 (by decide), trivial⟩⟩⟩) (by decide) ?_
        refine va_gets hx hb X.2.2.2.2.2.2.1 X.2.2.2.1 hown (hts _ q6_144) (fun _ h9 => h9) dX11_dateOf_181 ?_
        refine lv_iload hx hb dX11_dateOf_184 (lv_at hl 3 rfl) ?_
        refine lv_iconst (v := (1 : Int32)) hx hb dX11_dateOf_186 (by decide) ?_
        refine lv_isub hx hb dX11_dateOf_187 ?_
        obtain ⟨h_3, hF⟩ := grd_some hF
        refine va_ti (v := .int (daysL.getD (v9 - (1 : Int32)).toNatClampNeg 0)) hx hb X.2.2.2.2.2.2.2.1 X.2.2.2.1 (inB_ok h_3) rfl dX11_dateOf_188 ?_
        refine lv_iload hx hb dX11_dateOf_189 (lv_at hl 2 rfl) ?_
        refine lv_iadd hx hb dX11_dateOf_191 ?_
        refine lv_iload hx hb dX11_dateOf_192 (lv_at hl 3 rfl) ?_
        refine lv_iconst (v := (2 : Int32)) hx hb dX11_dateOf_194 (by decide) ?_
        refine lv_icmp_le (tgt := 210) hx hb dX11_dateOf_195 (by decide) (fun c => ?_) (fun c => ?_)
        · replace hF := iT c hF
          refine lv_iconst (v := (0 : Int32)) hx hb dX11_dateOf_210 (by decide) ?_
          refine lv_iadd hx hb dX11_dateOf_211 ?_
          have hq := Option.some.inj hF
          subst hq
          exact rt_i C X dX11_dateOf_212
        · replace hF := iF c hF
          refine lv_iload hx hb dX11_dateOf_198 (lv_at hl 0 rfl) ?_
          obtain ⟨q_4, hc_5, hF⟩ := bnd_some hF
          refine cS_i (As := [.int (s1 + s0)]) (rest := [.int ((daysL.getD (v9 - (1 : Int32)).toNatClampNeg 0) + v8)]) C X (c_X11_isLeap l D  (s1 + s0) q_4 hc_5 _) (va_cwS 1 hts (good_S q6_146 q6_147 q1_1 q6_148) rfl rfl rfl (by decide +kernel) ⟨Nat.le_of_ble_eq_true rfl, Nat.le_of_ble_eq_true rfl⟩) (eK X) eP (eD (A := A)) (eF X) hl.1 rfl rfl (Nat.le_of_ble_eq_true rfl) dX11_dateOf_200 ⟨Nat.le_of_ble_eq_true rfl, Nat.le_of_ble_eq_true rfl⟩ (fun t H1 locs1 ht hB hk hS => ?_)
          have X := Hx_after_none X hk hS
          clear hk hS ht hB
          generalize H1 = H at X ⊢
          generalize locs1 = locs at X ⊢
          refine lv_if_eq (tgt := 210) hx hb dX11_dateOf_203 (by decide) (fun c => ?_) (fun c => ?_)
          · replace hF := iT c hF
            refine lv_iconst (v := (0 : Int32)) hx hb dX11_dateOf_210 (by decide) ?_
            refine lv_iadd hx hb dX11_dateOf_211 ?_
            have hq := Option.some.inj hF
            subst hq
            exact rt_i C X dX11_dateOf_212
          · replace hF := iF c hF
            refine lv_iconst (v := (1 : Int32)) hx hb dX11_dateOf_206 (by decide) ?_
            refine lv_goto (tgt := 211) hx hb dX11_dateOf_207 (by decide) ?_
            refine lv_iadd hx hb dX11_dateOf_211 ?_
            have hq := Option.some.inj hF
            subst hq
            exact rt_i C X dX11_dateOf_212
set_option maxHeartbeats 4000000 in
set_option maxRecDepth 100000 in
theorem k_X11_dateOf_122 (l : Launch) (D : Dx) : S_X11_dateOf_122 l D (b_X11_dateOf_122) := by
  intro p e s m args below meth c H locs A ls v1 v3 v5 v8 s0 q C X hl hF
  obtain ⟨hx, hb, hr, hml, hown, hts, hlk⟩ := id C
  unfold b_X11_dateOf_122 at hF
  refine lv_istore (lv' := [(9, .int s0), (1, .int v1), (3, .int v3), (5, .int v5), (8, .int v8)]) hx hb dX11_dateOf_122 hl (by decide) rfl (fun ls hl => ?_)
  refine lv_iload hx hb dX11_dateOf_124 (lv_at hl 3 rfl) ?_
  refine lv_iload_n hx hb dX11_dateOf_126 rfl (lv_at hl 2 rfl) ?_
  refine lv_sipush (v := (400 : Int32)) hx hb dX11_dateOf_127 (by decide) ?_
  refine lv_imul hx hb dX11_dateOf_130 ?_
  refine lv_iadd hx hb dX11_dateOf_131 ?_
  refine lv_iload hx hb dX11_dateOf_132 (lv_at hl 0 rfl) ?_
  refine lv_iconst (v := (2 : Int32)) hx hb dX11_dateOf_134 (by decide) ?_
  refine lv_icmp_gt (tgt := 142) hx hb dX11_dateOf_135 (by decide) (fun c => ?_) (fun c => ?_)
  · replace hF := iT c hF
    refine lv_iconst (v := (0 : Int32)) hx hb dX11_dateOf_142 (by decide) ?_
    exact (k_X11_dateOf_143 l D ) C X (lv_sub hl [1, 4, 0] rfl) hF
  · replace hF := iF c hF
    refine lv_iconst (v := (1 : Int32)) hx hb dX11_dateOf_138 (by decide) ?_
    refine lv_goto (tgt := 143) hx hb dX11_dateOf_139 (by decide) ?_
    exact (k_X11_dateOf_143 l D ) C X (lv_sub hl [1, 4, 0] rfl) hF
set_option maxHeartbeats 4000000 in
set_option maxRecDepth 100000 in
theorem c_X11_dateOf (l : Launch) (D : Dx) (x0 : Int32) (x1 : Int32) (q : Int32) (hF : f_X11_dateOf x0 x1 = some q) (sz : Nat) : Met l yX11_dateOf (ws_ yX11_dateOf cX11_dateOf 11 (some .int)) R_X11_dateOf (PC D ([]) [.int x0, .int x1] ([]) sz) (QI D (va_A ([]) sz) ([]) q) 0 0 (va_A ([]) sz) := by
  refine Met.ofW (cc := cX11_dateOf) (maxL := 11) (ret := (some .int)) (by decide) rfl ?_
  intro p e s m args below meth c s₁ B hml hv
  obtain ⟨rfl, hsz, hP, hK, hD, hN⟩ := hv
  subst hsz
  have C : Cx p s m _ meth c cX11_dateOf (some .int) 11 RX11 lw_all := Cx_of B hml
  have X := Hx_start hP hK hD hN
  obtain ⟨hx, hb, hr, -, hown, hts, hlk⟩ := id C
  generalize va_A ([]) s.heap.size = A at X ⊢
  have hl := lv_entry ([.int x0, .int x1]) (n := 11) (Nat.le_of_ble_eq_true rfl)
  rw [lg_entry_eq]
  generalize (lg_sl ([.int x0, .int x1]) ++ List.replicate (11 - (lg_sl ([.int x0, .int x1])).length) Slot.unset).toArray = ls at hl ⊢
  have hl : lv_has ls 11 [(0, .int x0), (1, .int x1)] := hl
  unfold f_X11_dateOf at hF
  refine lv_iload_n hx hb dX11_dateOf_0 rfl (lv_at hl 0 rfl) ?_
  refine lv_ldcw hx hb hown (hts _ q6_137) dX11_dateOf_1 ?_
  refine lv_iadd hx hb dX11_dateOf_4 ?_
  refine lv_istore_n (lv' := [(2, .int (x0 + (719468 : Int32))), (0, .int x0), (1, .int x1)]) hx hb dX11_dateOf_5 rfl hl (by decide) rfl (fun ls hl => ?_)
  refine lv_iload_n hx hb dX11_dateOf_6 rfl (lv_at hl 0 rfl) ?_
  refine lv_ldcw hx hb hown (hts _ q6_138) dX11_dateOf_7 ?_
  obtain ⟨q_1, hc_2, hF⟩ := bnd_some hF
  refine cS_i (As := [.int (x0 + (719468 : Int32)), .int (146097 : Int32)]) (rest := []) C X (c_J9_floorDiv_7cf53 l D  (x0 + (719468 : Int32)) (146097 : Int32) q_1 hc_2 _) (va_cwS 2 hts (good_S q6_139 q6_140 q1_14 q6_141) rfl rfl rfl (by decide +kernel) ⟨Nat.le_of_ble_eq_true rfl, Nat.le_of_ble_eq_true rfl⟩) (eK X) eP (eD (A := A)) (eF X) hl.1 rfl rfl (Nat.le_of_ble_eq_true rfl) dX11_dateOf_10 ⟨Nat.le_of_ble_eq_true rfl, Nat.le_of_ble_eq_true rfl⟩ (fun t H1 locs1 ht hB hk hS => ?_)
  have X := Hx_after_none X hk hS
  clear hk hS ht hB
  generalize H1 = H at X ⊢
  generalize locs1 = locs at X ⊢
  refine lv_istore_n (lv' := [(3, .int q_1), (2, .int (x0 + (719468 : Int32))), (0, .int x0), (1, .int x1)]) hx hb dX11_dateOf_13 rfl hl (by decide) rfl (fun ls hl => ?_)
  refine lv_iload_n hx hb dX11_dateOf_14 rfl (lv_at hl 1 rfl) ?_
  refine lv_iload_n hx hb dX11_dateOf_15 rfl (lv_at hl 0 rfl) ?_
  refine lv_ldcw hx hb hown (hts _ q6_138) dX11_dateOf_16 ?_
  refine lv_imul hx hb dX11_dateOf_19 ?_
  refine lv_isub hx hb dX11_dateOf_20 ?_
  refine lv_istore (lv' := [(4, .int ((x0 + (719468 : Int32)) - (q_1 * (146097 : Int32)))), (3, .int q_1), (2, .int (x0 + (719468 : Int32))), (0, .int x0), (1, .int x1)]) hx hb dX11_dateOf_21 hl (by decide) rfl (fun ls hl => ?_)
  refine lv_iload hx hb dX11_dateOf_23 (lv_at hl 0 rfl) ?_
  refine lv_iload hx hb dX11_dateOf_25 (lv_at hl 0 rfl) ?_
  refine lv_sipush (v := (1460 : Int32)) hx hb dX11_dateOf_27 (by decide) ?_
  refine lv_idiv hx hb dX11_dateOf_30 (by decide) ?_
  refine lv_isub hx hb dX11_dateOf_31 ?_
  refine lv_iload hx hb dX11_dateOf_32 (lv_at hl 0 rfl) ?_
  refine lv_ldcw hx hb hown (hts _ q6_142) dX11_dateOf_34 ?_
  refine lv_idiv hx hb dX11_dateOf_37 (by decide) ?_
  refine lv_iadd hx hb dX11_dateOf_38 ?_
  refine lv_iload hx hb dX11_dateOf_39 (lv_at hl 0 rfl) ?_
  refine lv_ldcw hx hb hown (hts _ q6_143) dX11_dateOf_41 ?_
  refine lv_idiv hx hb dX11_dateOf_44 (by decide) ?_
  refine lv_isub hx hb dX11_dateOf_45 ?_
  refine lv_sipush (v := (365 : Int32)) hx hb dX11_dateOf_46 (by decide) ?_
  refine lv_idiv hx hb dX11_dateOf_49 (by decide) ?_
  refine lv_istore (lv' := [(5, .int ((((((x0 + (719468 : Int32)) - (q_1 * (146097 : Int32))) - (((x0 + (719468 : Int32)) - (q_1 * (146097 : Int32))) / (1460 : Int32))) + (((x0 + (719468 : Int32)) - (q_1 * (146097 : Int32))) / (36524 : Int32))) - (((x0 + (719468 : Int32)) - (q_1 * (146097 : Int32))) / (146096 : Int32))) / (365 : Int32))), (4, .int ((x0 + (719468 : Int32)) - (q_1 * (146097 : Int32)))), (3, .int q_1), (2, .int (x0 + (719468 : Int32))), (0, .int x0), (1, .int x1)]) hx hb dX11_dateOf_50 hl (by decide) rfl (fun ls hl => ?_)
  refine lv_iload hx hb dX11_dateOf_52 (lv_at hl 1 rfl) ?_
  refine lv_sipush (v := (365 : Int32)) hx hb dX11_dateOf_54 (by decide) ?_
  refine lv_iload hx hb dX11_dateOf_57 (lv_at hl 0 rfl) ?_
  refine lv_imul hx hb dX11_dateOf_59 ?_
  refine lv_iload hx hb dX11_dateOf_60 (lv_at hl 0 rfl) ?_
  refine lv_iconst (v := (4 : Int32)) hx hb dX11_dateOf_62 (by decide) ?_
  refine lv_idiv hx hb dX11_dateOf_63 (by decide) ?_
  refine lv_iadd hx hb dX11_dateOf_64 ?_
  refine lv_iload hx hb dX11_dateOf_65 (lv_at hl 0 rfl) ?_
  refine lv_bipush (v := (100 : Int32)) hx hb dX11_dateOf_67 (by decide) ?_
  refine lv_idiv hx hb dX11_dateOf_69 (by decide) ?_
  refine lv_isub hx hb dX11_dateOf_70 ?_
  refine lv_isub hx hb dX11_dateOf_71 ?_
  refine lv_istore (lv' := [(6, .int (((x0 + (719468 : Int32)) - (q_1 * (146097 : Int32))) - ((((365 : Int32) * ((((((x0 + (719468 : Int32)) - (q_1 * (146097 : Int32))) - (((x0 + (719468 : Int32)) - (q_1 * (146097 : Int32))) / (1460 : Int32))) + (((x0 + (719468 : Int32)) - (q_1 * (146097 : Int32))) / (36524 : Int32))) - (((x0 + (719468 : Int32)) - (q_1 * (146097 : Int32))) / (146096 : Int32))) / (365 : Int32))) + (((((((x0 + (719468 : Int32)) - (q_1 * (146097 : Int32))) - (((x0 + (719468 : Int32)) - (q_1 * (146097 : Int32))) / (1460 : Int32))) + (((x0 + (719468 : Int32)) - (q_1 * (146097 : Int32))) / (36524 : Int32))) - (((x0 + (719468 : Int32)) - (q_1 * (146097 : Int32))) / (146096 : Int32))) / (365 : Int32)) / (4 : Int32))) - (((((((x0 + (719468 : Int32)) - (q_1 * (146097 : Int32))) - (((x0 + (719468 : Int32)) - (q_1 * (146097 : Int32))) / (1460 : Int32))) + (((x0 + (719468 : Int32)) - (q_1 * (146097 : Int32))) / (36524 : Int32))) - (((x0 + (719468 : Int32)) - (q_1 * (146097 : Int32))) / (146096 : Int32))) / (365 : Int32)) / (100 : Int32))))), (5, .int ((((((x0 + (719468 : Int32)) - (q_1 * (146097 : Int32))) - (((x0 + (719468 : Int32)) - (q_1 * (146097 : Int32))) / (1460 : Int32))) + (((x0 + (719468 : Int32)) - (q_1 * (146097 : Int32))) / (36524 : Int32))) - (((x0 + (719468 : Int32)) - (q_1 * (146097 : Int32))) / (146096 : Int32))) / (365 : Int32))), (4, .int ((x0 + (719468 : Int32)) - (q_1 * (146097 : Int32)))), (3, .int q_1), (2, .int (x0 + (719468 : Int32))), (0, .int x0), (1, .int x1)]) hx hb dX11_dateOf_72 hl (by decide) rfl (fun ls hl => ?_)
  refine lv_iconst (v := (5 : Int32)) hx hb dX11_dateOf_74 (by decide) ?_
  refine lv_iload hx hb dX11_dateOf_75 (lv_at hl 0 rfl) ?_
  refine lv_imul hx hb dX11_dateOf_77 ?_
  refine lv_iconst (v := (2 : Int32)) hx hb dX11_dateOf_78 (by decide) ?_
  refine lv_iadd hx hb dX11_dateOf_79 ?_
  refine lv_sipush (v := (153 : Int32)) hx hb dX11_dateOf_80 (by decide) ?_
  refine lv_idiv hx hb dX11_dateOf_83 (by decide) ?_
  refine lv_istore (lv' := [(7, .int ((((5 : Int32) * (((x0 + (719468 : Int32)) - (q_1 * (146097 : Int32))) - ((((365 : Int32) * ((((((x0 + (719468 : Int32)) - (q_1 * (146097 : Int32))) - (((x0 + (719468 : Int32)) - (q_1 * (146097 : Int32))) / (1460 : Int32))) + (((x0 + (719468 : Int32)) - (q_1 * (146097 : Int32))) / (36524 : Int32))) - (((x0 + (719468 : Int32)) - (q_1 * (146097 : Int32))) / (146096 : Int32))) / (365 : Int32))) + (((((((x0 + (719468 : Int32)) - (q_1 * (146097 : Int32))) - (((x0 + (719468 : Int32)) - (q_1 * (146097 : Int32))) / (1460 : Int32))) + (((x0 + (719468 : Int32)) - (q_1 * (146097 : Int32))) / (36524 : Int32))) - (((x0 + (719468 : Int32)) - (q_1 * (146097 : Int32))) / (146096 : Int32))) / (365 : Int32)) / (4 : Int32))) - (((((((x0 + (719468 : Int32)) - (q_1 * (146097 : Int32))) - (((x0 + (719468 : Int32)) - (q_1 * (146097 : Int32))) / (1460 : Int32))) + (((x0 + (719468 : Int32)) - (q_1 * (146097 : Int32))) / (36524 : Int32))) - (((x0 + (719468 : Int32)) - (q_1 * (146097 : Int32))) / (146096 : Int32))) / (365 : Int32)) / (100 : Int32))))) + (2 : Int32)) / (153 : Int32))), (6, .int (((x0 + (719468 : Int32)) - (q_1 * (146097 : Int32))) - ((((365 : Int32) * ((((((x0 + (719468 : Int32)) - (q_1 * (146097 : Int32))) - (((x0 + (719468 : Int32)) - (q_1 * (146097 : Int32))) / (1460 : Int32))) + (((x0 + (719468 : Int32)) - (q_1 * (146097 : Int32))) / (36524 : Int32))) - (((x0 + (719468 : Int32)) - (q_1 * (146097 : Int32))) / (146096 : Int32))) / (365 : Int32))) + (((((((x0 + (719468 : Int32)) - (q_1 * (146097 : Int32))) - (((x0 + (719468 : Int32)) - (q_1 * (146097 : Int32))) / (1460 : Int32))) + (((x0 + (719468 : Int32)) - (q_1 * (146097 : Int32))) / (36524 : Int32))) - (((x0 + (719468 : Int32)) - (q_1 * (146097 : Int32))) / (146096 : Int32))) / (365 : Int32)) / (4 : Int32))) - (((((((x0 + (719468 : Int32)) - (q_1 * (146097 : Int32))) - (((x0 + (719468 : Int32)) - (q_1 * (146097 : Int32))) / (1460 : Int32))) + (((x0 + (719468 : Int32)) - (q_1 * (146097 : Int32))) / (36524 : Int32))) - (((x0 + (719468 : Int32)) - (q_1 * (146097 : Int32))) / (146096 : Int32))) / (365 : Int32)) / (100 : Int32))))), (5, .int ((((((x0 + (719468 : Int32)) - (q_1 * (146097 : Int32))) - (((x0 + (719468 : Int32)) - (q_1 * (146097 : Int32))) / (1460 : Int32))) + (((x0 + (719468 : Int32)) - (q_1 * (146097 : Int32))) / (36524 : Int32))) - (((x0 + (719468 : Int32)) - (q_1 * (146097 : Int32))) / (146096 : Int32))) / (365 : Int32))), (4, .int ((x0 + (719468 : Int32)) - (q_1 * (146097 : Int32)))), (3, .int q_1), (2, .int (x0 + (719468 : Int32))), (0, .int x0), (1, .int x1)]) hx hb dX11_dateOf_84 hl (by decide) rfl (fun ls hl => ?_)
  refine lv_iload hx hb dX11_dateOf_86 (lv_at hl 1 rfl) ?_
  refine lv_sipush (v := (153 : Int32)) hx hb dX11_dateOf_88 (by decide) ?_
  refine lv_iload hx hb dX11_dateOf_91 (lv_at hl 0 rfl) ?_
  refine lv_imul hx hb dX11_dateOf_93 ?_
  refine lv_iconst (v := (2 : Int32)) hx hb dX11_dateOf_94 (by decide) ?_
  refine lv_iadd hx hb dX11_dateOf_95 ?_
  refine lv_iconst (v := (5 : Int32)) hx hb dX11_dateOf_96 (by decide) ?_
  refine lv_idiv hx hb dX11_dateOf_97 (by decide) ?_
  refine lv_isub hx hb dX11_dateOf_98 ?_
  refine lv_iconst (v := (1 : Int32)) hx hb dX11_dateOf_99 (by decide) ?_
  refine lv_iadd hx hb dX11_dateOf_100 ?_
  refine lv_istore (lv' := [(8, .int (((((x0 + (719468 : Int32)) - (q_1 * (146097 : Int32))) - ((((365 : Int32) * ((((((x0 + (719468 : Int32)) - (q_1 * (146097 : Int32))) - (((x0 + (719468 : Int32)) - (q_1 * (146097 : Int32))) / (1460 : Int32))) + (((x0 + (719468 : Int32)) - (q_1 * (146097 : Int32))) / (36524 : Int32))) - (((x0 + (719468 : Int32)) - (q_1 * (146097 : Int32))) / (146096 : Int32))) / (365 : Int32))) + (((((((x0 + (719468 : Int32)) - (q_1 * (146097 : Int32))) - (((x0 + (719468 : Int32)) - (q_1 * (146097 : Int32))) / (1460 : Int32))) + (((x0 + (719468 : Int32)) - (q_1 * (146097 : Int32))) / (36524 : Int32))) - (((x0 + (719468 : Int32)) - (q_1 * (146097 : Int32))) / (146096 : Int32))) / (365 : Int32)) / (4 : Int32))) - (((((((x0 + (719468 : Int32)) - (q_1 * (146097 : Int32))) - (((x0 + (719468 : Int32)) - (q_1 * (146097 : Int32))) / (1460 : Int32))) + (((x0 + (719468 : Int32)) - (q_1 * (146097 : Int32))) / (36524 : Int32))) - (((x0 + (719468 : Int32)) - (q_1 * (146097 : Int32))) / (146096 : Int32))) / (365 : Int32)) / (100 : Int32)))) - ((((153 : Int32) * ((((5 : Int32) * (((x0 + (719468 : Int32)) - (q_1 * (146097 : Int32))) - ((((365 : Int32) * ((((((x0 + (719468 : Int32)) - (q_1 * (146097 : Int32))) - (((x0 + (719468 : Int32)) - (q_1 * (146097 : Int32))) / (1460 : Int32))) + (((x0 + (719468 : Int32)) - (q_1 * (146097 : Int32))) / (36524 : Int32))) - (((x0 + (719468 : Int32)) - (q_1 * (146097 : Int32))) / (146096 : Int32))) / (365 : Int32))) + (((((((x0 + (719468 : Int32)) - (q_1 * (146097 : Int32))) - (((x0 + (719468 : Int32)) - (q_1 * (146097 : Int32))) / (1460 : Int32))) + (((x0 + (719468 : Int32)) - (q_1 * (146097 : Int32))) / (36524 : Int32))) - (((x0 + (719468 : Int32)) - (q_1 * (146097 : Int32))) / (146096 : Int32))) / (365 : Int32)) / (4 : Int32))) - (((((((x0 + (719468 : Int32)) - (q_1 * (146097 : Int32))) - (((x0 + (719468 : Int32)) - (q_1 * (146097 : Int32))) / (1460 : Int32))) + (((x0 + (719468 : Int32)) - (q_1 * (146097 : Int32))) / (36524 : Int32))) - (((x0 + (719468 : Int32)) - (q_1 * (146097 : Int32))) / (146096 : Int32))) / (365 : Int32)) / (100 : Int32))))) + (2 : Int32)) / (153 : Int32))) + (2 : Int32)) / (5 : Int32))) + (1 : Int32))), (7, .int ((((5 : Int32) * (((x0 + (719468 : Int32)) - (q_1 * (146097 : Int32))) - ((((365 : Int32) * ((((((x0 + (719468 : Int32)) - (q_1 * (146097 : Int32))) - (((x0 + (719468 : Int32)) - (q_1 * (146097 : Int32))) / (1460 : Int32))) + (((x0 + (719468 : Int32)) - (q_1 * (146097 : Int32))) / (36524 : Int32))) - (((x0 + (719468 : Int32)) - (q_1 * (146097 : Int32))) / (146096 : Int32))) / (365 : Int32))) + (((((((x0 + (719468 : Int32)) - (q_1 * (146097 : Int32))) - (((x0 + (719468 : Int32)) - (q_1 * (146097 : Int32))) / (1460 : Int32))) + (((x0 + (719468 : Int32)) - (q_1 * (146097 : Int32))) / (36524 : Int32))) - (((x0 + (719468 : Int32)) - (q_1 * (146097 : Int32))) / (146096 : Int32))) / (365 : Int32)) / (4 : Int32))) - (((((((x0 + (719468 : Int32)) - (q_1 * (146097 : Int32))) - (((x0 + (719468 : Int32)) - (q_1 * (146097 : Int32))) / (1460 : Int32))) + (((x0 + (719468 : Int32)) - (q_1 * (146097 : Int32))) / (36524 : Int32))) - (((x0 + (719468 : Int32)) - (q_1 * (146097 : Int32))) / (146096 : Int32))) / (365 : Int32)) / (100 : Int32))))) + (2 : Int32)) / (153 : Int32))), (6, .int (((x0 + (719468 : Int32)) - (q_1 * (146097 : Int32))) - ((((365 : Int32) * ((((((x0 + (719468 : Int32)) - (q_1 * (146097 : Int32))) - (((x0 + (719468 : Int32)) - (q_1 * (146097 : Int32))) / (1460 : Int32))) + (((x0 + (719468 : Int32)) - (q_1 * (146097 : Int32))) / (36524 : Int32))) - (((x0 + (719468 : Int32)) - (q_1 * (146097 : Int32))) / (146096 : Int32))) / (365 : Int32))) + (((((((x0 + (719468 : Int32)) - (q_1 * (146097 : Int32))) - (((x0 + (719468 : Int32)) - (q_1 * (146097 : Int32))) / (1460 : Int32))) + (((x0 + (719468 : Int32)) - (q_1 * (146097 : Int32))) / (36524 : Int32))) - (((x0 + (719468 : Int32)) - (q_1 * (146097 : Int32))) / (146096 : Int32))) / (365 : Int32)) / (4 : Int32))) - (((((((x0 + (719468 : Int32)) - (q_1 * (146097 : Int32))) - (((x0 + (719468 : Int32)) - (q_1 * (146097 : Int32))) / (1460 : Int32))) + (((x0 + (719468 : Int32)) - (q_1 * (146097 : Int32))) / (36524 : Int32))) - (((x0 + (719468 : Int32)) - (q_1 * (146097 : Int32))) / (146096 : Int32))) / (365 : Int32)) / (100 : Int32))))), (5, .int ((((((x0 + (719468 : Int32)) - (q_1 * (146097 : Int32))) - (((x0 + (719468 : Int32)) - (q_1 * (146097 : Int32))) / (1460 : Int32))) + (((x0 + (719468 : Int32)) - (q_1 * (146097 : Int32))) / (36524 : Int32))) - (((x0 + (719468 : Int32)) - (q_1 * (146097 : Int32))) / (146096 : Int32))) / (365 : Int32))), (4, .int ((x0 + (719468 : Int32)) - (q_1 * (146097 : Int32)))), (3, .int q_1), (2, .int (x0 + (719468 : Int32))), (0, .int x0), (1, .int x1)]) hx hb dX11_dateOf_101 hl (by decide) rfl (fun ls hl => ?_)
  refine lv_iload hx hb dX11_dateOf_103 (lv_at hl 1 rfl) ?_
  refine lv_bipush (v := (10 : Int32)) hx hb dX11_dateOf_105 (by decide) ?_
  refine lv_icmp_ge (tgt := 117) hx hb dX11_dateOf_107 (by decide) (fun c => ?_) (fun c => ?_)
  · replace hF := iT c hF
    refine lv_iload hx hb dX11_dateOf_117 (lv_at hl 1 rfl) ?_
    refine lv_bipush (v := (9 : Int32)) hx hb dX11_dateOf_119 (by decide) ?_
    refine lv_isub hx hb dX11_dateOf_121 ?_
    exact (k_X11_dateOf_122 l D ) C X (lv_sub hl [8, 5, 3, 0] rfl) hF
  · replace hF := iF c hF
    refine lv_iload hx hb dX11_dateOf_110 (lv_at hl 1 rfl) ?_
    refine lv_iconst (v := (3 : Int32)) hx hb dX11_dateOf_112 (by decide) ?_
    refine lv_iadd hx hb dX11_dateOf_113 ?_
    refine lv_goto (tgt := 122) hx hb dX11_dateOf_114 (by decide) ?_
    exact (k_X11_dateOf_122 l D ) C X (lv_sub hl [8, 5, 3, 0] rfl) hF

/-! ### X11_feedOne -/
theorem dX11_feedOne_0 : decode cX11_feedOne 0 = .ok (.bipush 24, 2) := by decide +kernel
theorem dX11_feedOne_2 : decode cX11_feedOne 2 = .ok (.istore_n 2, 1) := by decide +kernel
theorem dX11_feedOne_3 : decode cX11_feedOne 3 = .ok (.iload_n 2, 1) := by decide +kernel
theorem dX11_feedOne_4 : decode cX11_feedOne 4 = .ok (.ifCond .lt 32, 3) := by decide +kernel
theorem dX11_feedOne_7 : decode cX11_feedOne 7 = .ok (.aload_n 0, 1) := by decide +kernel
theorem dX11_feedOne_8 : decode cX11_feedOne 8 = .ok (.getfield 9, 3) := by decide +kernel
theorem dX11_feedOne_11 : decode cX11_feedOne 11 = .ok (.aload_n 0, 1) := by decide +kernel
theorem dX11_feedOne_12 : decode cX11_feedOne 12 = .ok (.getfield 13, 3) := by decide +kernel
theorem dX11_feedOne_15 : decode cX11_feedOne 15 = .ok (.iload_n 1, 1) := by decide +kernel
theorem dX11_feedOne_16 : decode cX11_feedOne 16 = .ok (.iload_n 2, 1) := by decide +kernel
theorem dX11_feedOne_17 : decode cX11_feedOne 17 = .ok (.ishr, 1) := by decide +kernel
theorem dX11_feedOne_18 : decode cX11_feedOne 18 = .ok (.i2b, 1) := by decide +kernel
theorem dX11_feedOne_19 : decode cX11_feedOne 19 = .ok (.bastore, 1) := by decide +kernel
theorem dX11_feedOne_20 : decode cX11_feedOne 20 = .ok (.aload_n 0, 1) := by decide +kernel
theorem dX11_feedOne_21 : decode cX11_feedOne 21 = .ok (.dup, 1) := by decide +kernel
theorem dX11_feedOne_22 : decode cX11_feedOne 22 = .ok (.getfield 13, 3) := by decide +kernel
theorem dX11_feedOne_25 : decode cX11_feedOne 25 = .ok (.iconst 1, 1) := by decide +kernel
theorem dX11_feedOne_26 : decode cX11_feedOne 26 = .ok (.iadd, 1) := by decide +kernel
theorem dX11_feedOne_27 : decode cX11_feedOne 27 = .ok (.putfield 13, 3) := by decide +kernel
theorem dX11_feedOne_30 : decode cX11_feedOne 30 = .ok (.iinc 2 (-8), 3) := by decide +kernel
theorem dX11_feedOne_33 : decode cX11_feedOne 33 = .ok (.goto (-30), 3) := by decide +kernel
theorem dX11_feedOne_36 : decode cX11_feedOne 36 = .ok (.return_, 1) := by decide +kernel
abbrev R_X11_feedOne : Room := ({ frames := 0, cells := 0, slots := 0, locals := 0 } : Room)
def h_X11_feedOne_3 (n : Nat) (rec : (Gs → Gs → Int32 → Int32 → Option (Gs × Gs))) (gT : Gs) (gT_0 : Gs) (v1 : Int32) (v2 : Int32) : Option (Gs × Gs) :=
  if v2 < 0 then (some (gT, gT_0)) else (grd (inB (gI gT 1) 3000) (rec (sI gT 1 ((gI gT 1) + (1 : Int32))) (sIA gT_0 0 (upd (gIA gT_0 0) (gI gT 1).toNatClampNeg (vp_nar .byte ((v1 >>> (v2 &&& 31)).toInt8.toInt32)))) v1 (v2 + (-8 : Int32))))
def L_X11_feedOne (n : Nat) : Nat → (Gs → Gs → Int32 → Int32 → Option (Gs × Gs))
  | 0 => ((fun _ _ _ _ => none))
  | k + 1 => (h_X11_feedOne_3 n (L_X11_feedOne n k))
def f_X11_feedOne (n : Nat) (gT : Gs) (gT_0 : Gs) (x0 : Int32) : Option (Gs × Gs) :=
  (L_X11_feedOne n n) gT gT_0 x0 (24 : Int32)
def S_X11_feedOne_3 (l : Launch) (D : Dx) (hT : Nat) (aT : Nat → Nat) (yT : Nat → ClassId) (aT_0 : Nat → Nat) (yT_0 : Nat → ClassId) (fn : Gs → Gs → Int32 → Int32 → Option (Gs × Gs)) : Prop :=
  ∀ {p : Program} {e : Env} {s : State} {m : MethodId} {args : Array Value} {below : List Frame} {meth : Method} {c : Code} {H : Heap} {locs : List Loc} {A : Nat → Prop} {ls : Array Slot} {gT : Gs} {gT_0 : Gs} {v1 : Int32} {v2 : Int32} {q : Gs × Gs}, Cx p s m args meth c cX11_feedOne none 3 RX11 lw_all → Hx D (tX11 yT ++ (tTP yT_0)) A s H locs (wX11 hT aT yT gT ++ (wTP (aT 0) aT_0 yT_0 gT_0)) → lv_has ls 3 [(0, .ref hT), (1, .int v1), (2, .int v2)] → fn gT gT_0 v1 v2 = some q → W p l e R_X11_feedOne s m args below meth c H locs 0 0 (MQ below (QV D A (wX11 hT aT yT q.1 ++ (wTP (aT 0) aT_0 yT_0 q.2))) args s 0 0 A) (F0 m 3 ls [])
def SH_X11_feedOne (l : Launch) (D : Dx) (hT : Nat) (aT : Nat → Nat) (yT : Nat → ClassId) (aT_0 : Nat → Nat) (yT_0 : Nat → ClassId) (rec : (Gs → Gs → Int32 → Int32 → Option (Gs × Gs))) : Prop := S_X11_feedOne_3 l D hT aT yT aT_0 yT_0 rec
set_option maxHeartbeats 4000000 in
set_option maxRecDepth 100000 in
theorem k_X11_feedOne_3 (l : Launch) (D : Dx) (hT : Nat) (aT : Nat → Nat) (yT : Nat → ClassId) (aT_0 : Nat → Nat) (yT_0 : Nat → ClassId) (n : Nat) (rec : (Gs → Gs → Int32 → Int32 → Option (Gs × Gs))) (IH : SH_X11_feedOne l D hT aT yT aT_0 yT_0 rec) : S_X11_feedOne_3 l D hT aT yT aT_0 yT_0 (h_X11_feedOne_3 n rec) := by
  intro p e s m args below meth c H locs A ls gT gT_0 v1 v2 q C X hl hF
  obtain ⟨hx, hb, hr, hml, hown, hts, hlk⟩ := id C
  unfold h_X11_feedOne_3 at hF
  refine lv_iload_n hx hb dX11_feedOne_3 rfl (lv_at hl 2 rfl) ?_
  refine lv_if_lt (tgt := 36) hx hb dX11_feedOne_4 (by decide) (fun c => ?_) (fun c => ?_)
  · replace hF := iT c hF
    have hq := Option.some.inj hF
    subst hq
    exact rt_v C X dX11_feedOne_36
  · replace hF := iF c hF
    refine lv_aload_n hx hb dX11_feedOne_7 rfl (lv_at hl 0 rfl) ?_
    refine va_get (D := D.1) (ci := 11) (v := .ref (aT 0)) (C := RX11) (T := TX11) (N := 14) hx hb hts wi_X11 hown X.1 X.2.1 0 rfl rfl 0 (by decide) (hts _ q2_147) (fun _ h9 => h9) (fl_get (by decide)) dX11_feedOne_8 ?_
    refine lv_aload_n hx hb dX11_feedOne_11 rfl (lv_at hl 0 rfl) ?_
    refine va_get (D := D.1) (ci := 11) (v := .int (gI gT 1)) (C := RX11) (T := TX11) (N := 14) hx hb hts wi_X11 hown X.1 X.2.1 0 rfl rfl 1 (by decide) (hts _ q2_148) (fun _ h9 => h9) (fl_get (by decide)) dX11_feedOne_12 ?_
    refine lv_iload_n hx hb dX11_feedOne_15 rfl (lv_at hl 1 rfl) ?_
    refine lv_iload_n hx hb dX11_feedOne_16 rfl (lv_at hl 2 rfl) ?_
    refine lv_ishr hx hb dX11_feedOne_17 ?_
    refine lv_i2b hx hb dX11_feedOne_18 rfl ?_
    obtain ⟨h_1, hF⟩ := grd_some hF
    refine va_bast (D := D.1) (f := gIA gT_0 0) hx hb X.1 X.2.1 X.2.2.1 X.2.2.2.1 1 0 rfl rfl (inB_ok h_1) dX11_feedOne_19 (fun H locs hP hD hS => ?_)
    have X : Hx D (tX11 yT ++ (tTP yT_0)) A s H locs (wX11 hT aT yT gT ++ (wTP (aT 0) aT_0 yT_0 (sIA gT_0 0 (upd (gIA gT_0 0) (gI gT 1).toNatClampNeg (vp_nar .byte ((v1 >>> (v2 &&& 31)).toInt8.toInt32)))))) := Hx_set X (set_r (n := 1) (i := 0) (j := 1) (wG_len rfl) rfl (rfl)) hP hD hS
    refine lv_aload_n hx hb dX11_feedOne_20 rfl (lv_at hl 0 rfl) ?_
    refine lv_dup hx hb dX11_feedOne_21 rfl ?_
    refine va_get (D := D.1) (ci := 11) (v := .int (gI gT 1)) (C := RX11) (T := TX11) (N := 14) hx hb hts wi_X11 hown X.1 X.2.1 0 rfl rfl 1 (by decide) (hts _ q2_148) (fun _ h9 => h9) (fl_get (by decide)) dX11_feedOne_22 ?_
    refine lv_iconst (v := (1 : Int32)) hx hb dX11_feedOne_25 (by decide) ?_
    refine lv_iadd hx hb dX11_feedOne_26 ?_
    refine va_put (D := D.1) (ci := 11) (v := .int ((gI gT 1) + (1 : Int32))) (ty := .int) (C := RX11) (T := TX11) (N := 14) hx hb hts wi_X11 tyX11 tyX11_ok nmX11 hown X.1 X.2.1 X.2.2.1 X.2.2.2.1 0 rfl rfl 1 (by decide) (hts _ q2_148) (fun _ h9 => h9) rfl (by decide +kernel) rfl rfl (by rw [List.length_map, List.length_range]; decide) dX11_feedOne_27 (fun H locs hP hD hS => ?_)
    have X : Hx D (tX11 yT ++ (tTP yT_0)) A s H locs (wX11 hT aT yT (sI gT 1 ((gI gT 1) + (1 : Int32))) ++ (wTP (aT 0) aT_0 yT_0 (sIA gT_0 0 (upd (gIA gT_0 0) (gI gT 1).toNatClampNeg (vp_nar .byte ((v1 >>> (v2 &&& 31)).toInt8.toInt32)))))) := Hx_set X (set_l (by rw [wG_len (m := 1) rfl]; decide) (wG_sI (k := 1) rfl)) hP hD hS
    refine lv_iinc (v := v2 + (-8 : Int32)) (lv' := [(2, .int (v2 + (-8 : Int32))), (0, .ref hT), (1, .int v1)]) hx hb dX11_feedOne_30 hl (k := 2) rfl rfl (by decide) rfl (fun ls hl => ?_)
    refine lv_goto (tgt := 3) hx hb dX11_feedOne_33 (by decide) ?_
    exact IH C X (lv_sub hl [1, 2, 0] rfl) hF
theorem kL_X11_feedOne (l : Launch) (D : Dx) (hT : Nat) (aT : Nat → Nat) (yT : Nat → ClassId) (aT_0 : Nat → Nat) (yT_0 : Nat → ClassId) (n : Nat) : ∀ k, SH_X11_feedOne l D hT aT yT aT_0 yT_0 (L_X11_feedOne n k)
  | 0 => fun _ _ _ h => by cases h
  | k + 1 => k_X11_feedOne_3 l D hT aT yT aT_0 yT_0 n _ (kL_X11_feedOne l D hT aT yT aT_0 yT_0 n k)
set_option maxHeartbeats 4000000 in
set_option maxRecDepth 100000 in
theorem c_X11_feedOne (l : Launch) (D : Dx) (hT : Nat) (aT : Nat → Nat) (yT : Nat → ClassId) (aT_0 : Nat → Nat) (yT_0 : Nat → ClassId) (n : Nat) (gT : Gs) (gT_0 : Gs) (x0 : Int32) (q : Gs × Gs) (hF : f_X11_feedOne n gT gT_0 x0 = some q) (sz : Nat) : Met l yX11_feedOne (ws_ yX11_feedOne cX11_feedOne 3 none) R_X11_feedOne (PC D (tX11 yT ++ (tTP yT_0)) [.ref hT, .int x0] (wX11 hT aT yT gT ++ (wTP (aT 0) aT_0 yT_0 gT_0)) sz) (QV D (va_A (wX11 hT aT yT gT ++ (wTP (aT 0) aT_0 yT_0 gT_0)) sz) (wX11 hT aT yT q.1 ++ (wTP (aT 0) aT_0 yT_0 q.2))) 0 0 (va_A (wX11 hT aT yT gT ++ (wTP (aT 0) aT_0 yT_0 gT_0)) sz) := by
  refine Met.ofW (cc := cX11_feedOne) (maxL := 3) (ret := none) (by decide) rfl ?_
  intro p e s m args below meth c s₁ B hml hv
  obtain ⟨rfl, hsz, hP, hK, hD, hN⟩ := hv
  subst hsz
  have C : Cx p s m _ meth c cX11_feedOne none 3 RX11 lw_all := Cx_of B hml
  have X := Hx_start hP hK hD hN
  obtain ⟨hx, hb, hr, -, hown, hts, hlk⟩ := id C
  generalize va_A (wX11 hT aT yT gT ++ (wTP (aT 0) aT_0 yT_0 gT_0)) s.heap.size = A at X ⊢
  have hl := lv_entry ([.ref hT, .int x0]) (n := 3) (Nat.le_of_ble_eq_true rfl)
  rw [lg_entry_eq]
  generalize (lg_sl ([.ref hT, .int x0]) ++ List.replicate (3 - (lg_sl ([.ref hT, .int x0])).length) Slot.unset).toArray = ls at hl ⊢
  have hl : lv_has ls 3 [(0, .ref hT), (1, .int x0)] := hl
  unfold f_X11_feedOne at hF
  refine lv_bipush (v := (24 : Int32)) hx hb dX11_feedOne_0 (by decide) ?_
  refine lv_istore_n (lv' := [(2, .int (24 : Int32)), (0, .ref hT), (1, .int x0)]) hx hb dX11_feedOne_2 rfl hl (by decide) rfl (fun ls hl => ?_)
  exact (kL_X11_feedOne l D hT aT yT aT_0 yT_0 n n) C X (lv_sub hl [1, 2, 0] rfl) hF

/-! ### X11_feed -/
theorem dX11_feed_0 : decode cX11_feed 0 = .ok (.aload_n 0, 1) := by decide +kernel
theorem dX11_feed_1 : decode cX11_feed 1 = .ok (.getfield 13, 3) := by decide +kernel
theorem dX11_feed_4 : decode cX11_feed 4 = .ok (.bipush 20, 2) := by decide +kernel
theorem dX11_feed_6 : decode cX11_feed 6 = .ok (.iadd, 1) := by decide +kernel
theorem dX11_feed_7 : decode cX11_feed 7 = .ok (.sipush 3000, 3) := by decide +kernel
theorem dX11_feed_10 : decode cX11_feed 10 = .ok (.if_icmp .le 5, 3) := by decide +kernel
theorem dX11_feed_13 : decode cX11_feed 13 = .ok (.iconst (-1), 1) := by decide +kernel
theorem dX11_feed_14 : decode cX11_feed 14 = .ok (.ireturn, 1) := by decide +kernel
theorem dX11_feed_15 : decode cX11_feed 15 = .ok (.aload_n 0, 1) := by decide +kernel
theorem dX11_feed_16 : decode cX11_feed 16 = .ok (.iload_n 1, 1) := by decide +kernel
theorem dX11_feed_17 : decode cX11_feed 17 = .ok (.invokevirtual 89, 3) := by decide +kernel
theorem dX11_feed_20 : decode cX11_feed 20 = .ok (.aload_n 0, 1) := by decide +kernel
theorem dX11_feed_21 : decode cX11_feed 21 = .ok (.iload_n 2, 1) := by decide +kernel
theorem dX11_feed_22 : decode cX11_feed 22 = .ok (.invokevirtual 89, 3) := by decide +kernel
theorem dX11_feed_25 : decode cX11_feed 25 = .ok (.aload_n 0, 1) := by decide +kernel
theorem dX11_feed_26 : decode cX11_feed 26 = .ok (.iload_n 3, 1) := by decide +kernel
theorem dX11_feed_27 : decode cX11_feed 27 = .ok (.invokevirtual 89, 3) := by decide +kernel
theorem dX11_feed_30 : decode cX11_feed 30 = .ok (.aload_n 0, 1) := by decide +kernel
theorem dX11_feed_31 : decode cX11_feed 31 = .ok (.iload 4, 2) := by decide +kernel
theorem dX11_feed_33 : decode cX11_feed 33 = .ok (.invokevirtual 89, 3) := by decide +kernel
theorem dX11_feed_36 : decode cX11_feed 36 = .ok (.aload_n 0, 1) := by decide +kernel
theorem dX11_feed_37 : decode cX11_feed 37 = .ok (.iload 5, 2) := by decide +kernel
theorem dX11_feed_39 : decode cX11_feed 39 = .ok (.invokevirtual 89, 3) := by decide +kernel
theorem dX11_feed_42 : decode cX11_feed 42 = .ok (.aload_n 0, 1) := by decide +kernel
theorem dX11_feed_43 : decode cX11_feed 43 = .ok (.getfield 13, 3) := by decide +kernel
theorem dX11_feed_46 : decode cX11_feed 46 = .ok (.ireturn, 1) := by decide +kernel
abbrev R_X11_feed : Room := ({ frames := 1, cells := 0, slots := 0, locals := 22 } : Room)
def f_X11_feed (n : Nat) (gT : Gs) (gT_0 : Gs) (x0 : Int32) (x1 : Int32) (x2 : Int32) (x3 : Int32) (x4 : Int32) : Option (Int32 × Gs × Gs) :=
  if ((gI gT 1) + (20 : Int32)) ≤ (3000 : Int32) then (bnd (f_X11_feedOne n gT gT_0 x0) (fun q_1 => bnd (f_X11_feedOne n q_1.1 q_1.2 x1) (fun q_3 => bnd (f_X11_feedOne n q_3.1 q_3.2 x2) (fun q_5 => bnd (f_X11_feedOne n q_5.1 q_5.2 x3) (fun q_7 => bnd (f_X11_feedOne n q_7.1 q_7.2 x4) (fun q_9 => some (gI q_9.1 1, q_9.1, q_9.2))))))) else (some ((-1 : Int32), gT, gT_0))
set_option maxHeartbeats 4000000 in
set_option maxRecDepth 100000 in
theorem c_X11_feed (l : Launch) (D : Dx) (hT : Nat) (aT : Nat → Nat) (yT : Nat → ClassId) (aT_0 : Nat → Nat) (yT_0 : Nat → ClassId) (n : Nat) (gT : Gs) (gT_0 : Gs) (x0 : Int32) (x1 : Int32) (x2 : Int32) (x3 : Int32) (x4 : Int32) (q : Int32 × Gs × Gs) (hF : f_X11_feed n gT gT_0 x0 x1 x2 x3 x4 = some q) (sz : Nat) : Met l yX11_feed (ws_ yX11_feed cX11_feed 6 (some .int)) R_X11_feed (PC D (tX11 yT ++ (tTP yT_0)) [.ref hT, .int x0, .int x1, .int x2, .int x3, .int x4] (wX11 hT aT yT gT ++ (wTP (aT 0) aT_0 yT_0 gT_0)) sz) (QI D (va_A (wX11 hT aT yT gT ++ (wTP (aT 0) aT_0 yT_0 gT_0)) sz) (wX11 hT aT yT q.2.1 ++ (wTP (aT 0) aT_0 yT_0 q.2.2)) q.1) 0 0 (va_A (wX11 hT aT yT gT ++ (wTP (aT 0) aT_0 yT_0 gT_0)) sz) := by
  refine Met.ofW (cc := cX11_feed) (maxL := 6) (ret := (some .int)) (by decide) rfl ?_
  intro p e s m args below meth c s₁ B hml hv
  obtain ⟨rfl, hsz, hP, hK, hD, hN⟩ := hv
  subst hsz
  have C : Cx p s m _ meth c cX11_feed (some .int) 6 RX11 lw_all := Cx_of B hml
  have X := Hx_start hP hK hD hN
  obtain ⟨hx, hb, hr, -, hown, hts, hlk⟩ := id C
  generalize va_A (wX11 hT aT yT gT ++ (wTP (aT 0) aT_0 yT_0 gT_0)) s.heap.size = A at X ⊢
  have hl := lv_entry ([.ref hT, .int x0, .int x1, .int x2, .int x3, .int x4]) (n := 6) (Nat.le_of_ble_eq_true rfl)
  rw [lg_entry_eq]
  generalize (lg_sl ([.ref hT, .int x0, .int x1, .int x2, .int x3, .int x4]) ++ List.replicate (6 - (lg_sl ([.ref hT, .int x0, .int x1, .int x2, .int x3, .int x4])).length) Slot.unset).toArray = ls at hl ⊢
  have hl : lv_has ls 6 [(0, .ref hT), (1, .int x0), (2, .int x1), (3, .int x2), (4, .int x3), (5, .int x4)] := hl
  unfold f_X11_feed at hF
  refine lv_aload_n hx hb dX11_feed_0 rfl (lv_at hl 0 rfl) ?_
  refine va_get (D := D.1) (ci := 11) (v := .int (gI gT 1)) (C := RX11) (T := TX11) (N := 14) hx hb hts wi_X11 hown X.1 X.2.1 0 rfl rfl 1 (by decide) (hts _ q2_148) (fun _ h9 => h9) (fl_get (by decide)) dX11_feed_1 ?_
  refine lv_bipush (v := (20 : Int32)) hx hb dX11_feed_4 (by decide) ?_
  refine lv_iadd hx hb dX11_feed_6 ?_
  refine lv_sipush (v := (3000 : Int32)) hx hb dX11_feed_7 (by decide) ?_
  refine lv_icmp_le (tgt := 15) hx hb dX11_feed_10 (by decide) (fun c => ?_) (fun c => ?_)
  · replace hF := iT c hF
    refine lv_aload_n hx hb dX11_feed_15 rfl (lv_at hl 0 rfl) ?_
    refine lv_iload_n hx hb dX11_feed_16 rfl (lv_at hl 1 rfl) ?_
    obtain ⟨q_1, hc_2, hF⟩ := bnd_some hF
    refine cV_v (As := [.int x0]) (rest := []) C X (c_X11_feedOne l D hT aT yT aT_0 yT_0 n gT gT_0 x0 q_1 hc_2 _) (cwV 1 hts (good_V q2_194 q2_196 q0_0 q1_1 q2_197) rfl rfl rfl (by decide +kernel) ⟨Nat.le_of_ble_eq_true rfl, Nat.le_of_ble_eq_true rfl⟩) (va_recv X.1 X.2.1 (ci := 11) (q0 := 0) rfl rfl) X.1 X.2.1 X.2.2.1 (free_all X) hl.1 rfl rfl (Nat.le_of_ble_eq_true rfl) dX11_feed_17 ⟨Nat.le_of_ble_eq_true rfl, Nat.le_of_ble_eq_true rfl⟩ (fun t H1 locs1 ht hB hk hS => ?_)
    have X : Hx D (tX11 yT ++ (tTP yT_0)) A s H1 locs1 (wX11 hT aT yT q_1.1 ++ (wTP (aT 0) aT_0 yT_0 q_1.2)) := Hx_after_all X ht hB hS
    clear hk hS ht hB
    generalize H1 = H at X ⊢
    generalize locs1 = locs at X ⊢
    refine lv_aload_n hx hb dX11_feed_20 rfl (lv_at hl 0 rfl) ?_
    refine lv_iload_n hx hb dX11_feed_21 rfl (lv_at hl 2 rfl) ?_
    obtain ⟨q_3, hc_4, hF⟩ := bnd_some hF
    refine cV_v (As := [.int x1]) (rest := []) C X (c_X11_feedOne l D hT aT yT aT_0 yT_0 n q_1.1 q_1.2 x1 q_3 hc_4 _) (cwV 1 hts (good_V q2_194 q2_196 q0_0 q1_1 q2_197) rfl rfl rfl (by decide +kernel) ⟨Nat.le_of_ble_eq_true rfl, Nat.le_of_ble_eq_true rfl⟩) (va_recv X.1 X.2.1 (ci := 11) (q0 := 0) rfl rfl) X.1 X.2.1 X.2.2.1 (free_all X) hl.1 rfl rfl (Nat.le_of_ble_eq_true rfl) dX11_feed_22 ⟨Nat.le_of_ble_eq_true rfl, Nat.le_of_ble_eq_true rfl⟩ (fun t H1 locs1 ht hB hk hS => ?_)
    have X : Hx D (tX11 yT ++ (tTP yT_0)) A s H1 locs1 (wX11 hT aT yT q_3.1 ++ (wTP (aT 0) aT_0 yT_0 q_3.2)) := Hx_after_all X ht hB hS
    clear hk hS ht hB
    generalize H1 = H at X ⊢
    generalize locs1 = locs at X ⊢
    refine lv_aload_n hx hb dX11_feed_25 rfl (lv_at hl 0 rfl) ?_
    refine lv_iload_n hx hb dX11_feed_26 rfl (lv_at hl 3 rfl) ?_
    obtain ⟨q_5, hc_6, hF⟩ := bnd_some hF
    refine cV_v (As := [.int x2]) (rest := []) C X (c_X11_feedOne l D hT aT yT aT_0 yT_0 n q_3.1 q_3.2 x2 q_5 hc_6 _) (cwV 1 hts (good_V q2_194 q2_196 q0_0 q1_1 q2_197) rfl rfl rfl (by decide +kernel) ⟨Nat.le_of_ble_eq_true rfl, Nat.le_of_ble_eq_true rfl⟩) (va_recv X.1 X.2.1 (ci := 11) (q0 := 0) rfl rfl) X.1 X.2.1 X.2.2.1 (free_all X) hl.1 rfl rfl (Nat.le_of_ble_eq_true rfl) dX11_feed_27 ⟨Nat.le_of_ble_eq_true rfl, Nat.le_of_ble_eq_true rfl⟩ (fun t H1 locs1 ht hB hk hS => ?_)
    have X : Hx D (tX11 yT ++ (tTP yT_0)) A s H1 locs1 (wX11 hT aT yT q_5.1 ++ (wTP (aT 0) aT_0 yT_0 q_5.2)) := Hx_after_all X ht hB hS
    clear hk hS ht hB
    generalize H1 = H at X ⊢
    generalize locs1 = locs at X ⊢
    refine lv_aload_n hx hb dX11_feed_30 rfl (lv_at hl 0 rfl) ?_
    refine lv_iload hx hb dX11_feed_31 (lv_at hl 4 rfl) ?_
    obtain ⟨q_7, hc_8, hF⟩ := bnd_some hF
    refine cV_v (As := [.int x3]) (rest := []) C X (c_X11_feedOne l D hT aT yT aT_0 yT_0 n q_5.1 q_5.2 x3 q_7 hc_8 _) (cwV 1 hts (good_V q2_194 q2_196 q0_0 q1_1 q2_197) rfl rfl rfl (by decide +kernel) ⟨Nat.le_of_ble_eq_true rfl, Nat.le_of_ble_eq_true rfl⟩) (va_recv X.1 X.2.1 (ci := 11) (q0 := 0) rfl rfl) X.1 X.2.1 X.2.2.1 (free_all X) hl.1 rfl rfl (Nat.le_of_ble_eq_true rfl) dX11_feed_33 ⟨Nat.le_of_ble_eq_true rfl, Nat.le_of_ble_eq_true rfl⟩ (fun t H1 locs1 ht hB hk hS => ?_)
    have X : Hx D (tX11 yT ++ (tTP yT_0)) A s H1 locs1 (wX11 hT aT yT q_7.1 ++ (wTP (aT 0) aT_0 yT_0 q_7.2)) := Hx_after_all X ht hB hS
    clear hk hS ht hB
    generalize H1 = H at X ⊢
    generalize locs1 = locs at X ⊢
    refine lv_aload_n hx hb dX11_feed_36 rfl (lv_at hl 0 rfl) ?_
    refine lv_iload hx hb dX11_feed_37 (lv_at hl 5 rfl) ?_
    obtain ⟨q_9, hc_10, hF⟩ := bnd_some hF
    refine cV_v (As := [.int x4]) (rest := []) C X (c_X11_feedOne l D hT aT yT aT_0 yT_0 n q_7.1 q_7.2 x4 q_9 hc_10 _) (cwV 1 hts (good_V q2_194 q2_196 q0_0 q1_1 q2_197) rfl rfl rfl (by decide +kernel) ⟨Nat.le_of_ble_eq_true rfl, Nat.le_of_ble_eq_true rfl⟩) (va_recv X.1 X.2.1 (ci := 11) (q0 := 0) rfl rfl) X.1 X.2.1 X.2.2.1 (free_all X) hl.1 rfl rfl (Nat.le_of_ble_eq_true rfl) dX11_feed_39 ⟨Nat.le_of_ble_eq_true rfl, Nat.le_of_ble_eq_true rfl⟩ (fun t H1 locs1 ht hB hk hS => ?_)
    have X : Hx D (tX11 yT ++ (tTP yT_0)) A s H1 locs1 (wX11 hT aT yT q_9.1 ++ (wTP (aT 0) aT_0 yT_0 q_9.2)) := Hx_after_all X ht hB hS
    clear hk hS ht hB
    generalize H1 = H at X ⊢
    generalize locs1 = locs at X ⊢
    refine lv_aload_n hx hb dX11_feed_42 rfl (lv_at hl 0 rfl) ?_
    refine va_get (D := D.1) (ci := 11) (v := .int (gI q_9.1 1)) (C := RX11) (T := TX11) (N := 14) hx hb hts wi_X11 hown X.1 X.2.1 0 rfl rfl 1 (by decide) (hts _ q2_148) (fun _ h9 => h9) (fl_get (by decide)) dX11_feed_43 ?_
    have hq := Option.some.inj hF
    subst hq
    exact rt_i C X dX11_feed_46
  · replace hF := iF c hF
    refine lv_iconst (v := (-1 : Int32)) hx hb dX11_feed_13 (by decide) ?_
    have hq := Option.some.inj hF
    subst hq
    exact rt_i C X dX11_feed_14

/-! ### X11_end -/
theorem dX11_end_0 : decode cX11_end 0 = .ok (.iload_n 1, 1) := by decide +kernel
theorem dX11_end_1 : decode cX11_end 1 = .ok (.ifCond .lt 11, 3) := by decide +kernel
theorem dX11_end_4 : decode cX11_end 4 = .ok (.iload_n 1, 1) := by decide +kernel
theorem dX11_end_5 : decode cX11_end 5 = .ok (.aload_n 0, 1) := by decide +kernel
theorem dX11_end_6 : decode cX11_end 6 = .ok (.getfield 13, 3) := by decide +kernel
theorem dX11_end_9 : decode cX11_end 9 = .ok (.if_icmp .le 5, 3) := by decide +kernel
theorem dX11_end_12 : decode cX11_end 12 = .ok (.iconst (-1), 1) := by decide +kernel
theorem dX11_end_13 : decode cX11_end 13 = .ok (.ireturn, 1) := by decide +kernel
theorem dX11_end_14 : decode cX11_end 14 = .ok (.aload_n 0, 1) := by decide +kernel
theorem dX11_end_15 : decode cX11_end 15 = .ok (.iload_n 1, 1) := by decide +kernel
theorem dX11_end_16 : decode cX11_end 16 = .ok (.putfield 13, 3) := by decide +kernel
theorem dX11_end_19 : decode cX11_end 19 = .ok (.iload_n 1, 1) := by decide +kernel
theorem dX11_end_20 : decode cX11_end 20 = .ok (.ireturn, 1) := by decide +kernel
abbrev R_X11_end : Room := ({ frames := 0, cells := 0, slots := 0, locals := 0 } : Room)
def f_X11_end (gT : Gs) (gT_0 : Gs) (x0 : Int32) : Option (Int32 × Gs) :=
  if x0 < 0 then (some ((-1 : Int32), gT)) else (if x0 ≤ (gI gT 1) then (some (x0, (sI gT 1 x0))) else (some ((-1 : Int32), gT)))
set_option maxHeartbeats 4000000 in
set_option maxRecDepth 100000 in
theorem c_X11_end (l : Launch) (D : Dx) (hT : Nat) (aT : Nat → Nat) (yT : Nat → ClassId) (aT_0 : Nat → Nat) (yT_0 : Nat → ClassId) (gT : Gs) (gT_0 : Gs) (x0 : Int32) (q : Int32 × Gs) (hF : f_X11_end gT gT_0 x0 = some q) (sz : Nat) : Met l yX11_end (ws_ yX11_end cX11_end 2 (some .int)) R_X11_end (PC D (tX11 yT ++ (tTP yT_0)) [.ref hT, .int x0] (wX11 hT aT yT gT ++ (wTP (aT 0) aT_0 yT_0 gT_0)) sz) (QI D (va_A (wX11 hT aT yT gT ++ (wTP (aT 0) aT_0 yT_0 gT_0)) sz) (wX11 hT aT yT q.2 ++ (wTP (aT 0) aT_0 yT_0 gT_0)) q.1) 0 0 (va_A (wX11 hT aT yT gT ++ (wTP (aT 0) aT_0 yT_0 gT_0)) sz) := by
  refine Met.ofW (cc := cX11_end) (maxL := 2) (ret := (some .int)) (by decide) rfl ?_
  intro p e s m args below meth c s₁ B hml hv
  obtain ⟨rfl, hsz, hP, hK, hD, hN⟩ := hv
  subst hsz
  have C : Cx p s m _ meth c cX11_end (some .int) 2 RX11 lw_all := Cx_of B hml
  have X := Hx_start hP hK hD hN
  obtain ⟨hx, hb, hr, -, hown, hts, hlk⟩ := id C
  generalize va_A (wX11 hT aT yT gT ++ (wTP (aT 0) aT_0 yT_0 gT_0)) s.heap.size = A at X ⊢
  have hl := lv_entry ([.ref hT, .int x0]) (n := 2) (Nat.le_of_ble_eq_true rfl)
  rw [lg_entry_eq]
  generalize (lg_sl ([.ref hT, .int x0]) ++ List.replicate (2 - (lg_sl ([.ref hT, .int x0])).length) Slot.unset).toArray = ls at hl ⊢
  have hl : lv_has ls 2 [(0, .ref hT), (1, .int x0)] := hl
  unfold f_X11_end at hF
  refine lv_iload_n hx hb dX11_end_0 rfl (lv_at hl 1 rfl) ?_
  refine lv_if_lt (tgt := 12) hx hb dX11_end_1 (by decide) (fun c => ?_) (fun c => ?_)
  · replace hF := iT c hF
    refine lv_iconst (v := (-1 : Int32)) hx hb dX11_end_12 (by decide) ?_
    have hq := Option.some.inj hF
    subst hq
    exact rt_i C X dX11_end_13
  · replace hF := iF c hF
    refine lv_iload_n hx hb dX11_end_4 rfl (lv_at hl 1 rfl) ?_
    refine lv_aload_n hx hb dX11_end_5 rfl (lv_at hl 0 rfl) ?_
    refine va_get (D := D.1) (ci := 11) (v := .int (gI gT 1)) (C := RX11) (T := TX11) (N := 14) hx hb hts wi_X11 hown X.1 X.2.1 0 rfl rfl 1 (by decide) (hts _ q2_148) (fun _ h9 => h9) (fl_get (by decide)) dX11_end_6 ?_
    refine lv_icmp_le (tgt := 14) hx hb dX11_end_9 (by decide) (fun c => ?_) (fun c => ?_)
    · replace hF := iT c hF
      refine lv_aload_n hx hb dX11_end_14 rfl (lv_at hl 0 rfl) ?_
      refine lv_iload_n hx hb dX11_end_15 rfl (lv_at hl 1 rfl) ?_
      refine va_put (D := D.1) (ci := 11) (v := .int x0) (ty := .int) (C := RX11) (T := TX11) (N := 14) hx hb hts wi_X11 tyX11 tyX11_ok nmX11 hown X.1 X.2.1 X.2.2.1 X.2.2.2.1 0 rfl rfl 1 (by decide) (hts _ q2_148) (fun _ h9 => h9) rfl (by decide +kernel) rfl rfl (by rw [List.length_map, List.length_range]; decide) dX11_end_16 (fun H locs hP hD hS => ?_)
      have X : Hx D (tX11 yT ++ (tTP yT_0)) A s H locs (wX11 hT aT yT (sI gT 1 x0) ++ (wTP (aT 0) aT_0 yT_0 gT_0)) := Hx_set X (set_l (by rw [wG_len (m := 1) rfl]; decide) (wG_sI (k := 1) rfl)) hP hD hS
      refine lv_iload_n hx hb dX11_end_19 rfl (lv_at hl 1 rfl) ?_
      have hq := Option.some.inj hF
      subst hq
      exact rt_i C X dX11_end_20
    · replace hF := iF c hF
      refine lv_iconst (v := (-1 : Int32)) hx hb dX11_end_12 (by decide) ?_
      have hq := Option.some.inj hF
      subst hq
      exact rt_i C X dX11_end_13

/-! ### X11_fault -/
theorem dX11_fault_0 : decode cX11_fault 0 = .ok (.aload_n 0, 1) := by decide +kernel
theorem dX11_fault_1 : decode cX11_fault 1 = .ok (.getfield 78, 3) := by decide +kernel
theorem dX11_fault_4 : decode cX11_fault 4 = .ok (.ireturn, 1) := by decide +kernel
abbrev R_X11_fault : Room := ({ frames := 0, cells := 0, slots := 0, locals := 0 } : Room)
def f_X11_fault (gT : Gs) : Option (Int32) :=
  some (gI gT 12)
set_option maxHeartbeats 4000000 in
set_option maxRecDepth 100000 in
theorem c_X11_fault (l : Launch) (D : Dx) (hT : Nat) (aT : Nat → Nat) (yT : Nat → ClassId) (gT : Gs) (q : Int32) (hF : f_X11_fault gT = some q) (sz : Nat) : Met l yX11_fault (ws_ yX11_fault cX11_fault 1 (some .int)) R_X11_fault (PC D (tX11 yT) [.ref hT] (wX11 hT aT yT gT) sz) (QI D (va_A (wX11 hT aT yT gT) sz) (wX11 hT aT yT gT) q) 0 0 (va_A (wX11 hT aT yT gT) sz) := by
  refine Met.ofW (cc := cX11_fault) (maxL := 1) (ret := (some .int)) (by decide) rfl ?_
  intro p e s m args below meth c s₁ B hml hv
  obtain ⟨rfl, hsz, hP, hK, hD, hN⟩ := hv
  subst hsz
  have C : Cx p s m _ meth c cX11_fault (some .int) 1 RX11 lw_all := Cx_of B hml
  have X := Hx_start hP hK hD hN
  obtain ⟨hx, hb, hr, -, hown, hts, hlk⟩ := id C
  generalize va_A (wX11 hT aT yT gT) s.heap.size = A at X ⊢
  have hl := lv_entry ([.ref hT]) (n := 1) (Nat.le_of_ble_eq_true rfl)
  rw [lg_entry_eq]
  generalize (lg_sl ([.ref hT]) ++ List.replicate (1 - (lg_sl ([.ref hT])).length) Slot.unset).toArray = ls at hl ⊢
  have hl : lv_has ls 1 [(0, .ref hT)] := hl
  unfold f_X11_fault at hF
  refine lv_aload_n hx hb dX11_fault_0 rfl (lv_at hl 0 rfl) ?_
  refine va_get (D := D.1) (ci := 11) (v := .int (gI gT 12)) (C := RX11) (T := TX11) (N := 14) hx hb hts wi_X11 hown X.1 X.2.1 0 rfl rfl 12 (by decide) (hts _ q2_159) (fun _ h9 => h9) (fl_get (by decide)) dX11_fault_1 ?_
  have hq := Option.some.inj hF
  subst hq
  exact rt_i C X dX11_fault_4

/-! ### X11_told -/
theorem dX11_told_0 : decode cX11_told 0 = .ok (.aload_n 0, 1) := by decide +kernel
theorem dX11_told_1 : decode cX11_told 1 = .ok (.getfield 81, 3) := by decide +kernel
theorem dX11_told_4 : decode cX11_told 4 = .ok (.lreturn, 1) := by decide +kernel
abbrev R_X11_told : Room := ({ frames := 0, cells := 0, slots := 0, locals := 0 } : Room)
def f_X11_told (gT : Gs) : Option (Int64) :=
  some (gL gT 13)
set_option maxHeartbeats 4000000 in
set_option maxRecDepth 100000 in
theorem c_X11_told (l : Launch) (D : Dx) (hT : Nat) (aT : Nat → Nat) (yT : Nat → ClassId) (gT : Gs) (q : Int64) (hF : f_X11_told gT = some q) (sz : Nat) : Met l yX11_told (ws_ yX11_told cX11_told 1 (some .long)) R_X11_told (PC D (tX11 yT) [.ref hT] (wX11 hT aT yT gT) sz) (QL D (va_A (wX11 hT aT yT gT) sz) (wX11 hT aT yT gT) q) 0 0 (va_A (wX11 hT aT yT gT) sz) := by
  refine Met.ofW (cc := cX11_told) (maxL := 1) (ret := (some .long)) (by decide) rfl ?_
  intro p e s m args below meth c s₁ B hml hv
  obtain ⟨rfl, hsz, hP, hK, hD, hN⟩ := hv
  subst hsz
  have C : Cx p s m _ meth c cX11_told (some .long) 1 RX11 lw_all := Cx_of B hml
  have X := Hx_start hP hK hD hN
  obtain ⟨hx, hb, hr, -, hown, hts, hlk⟩ := id C
  generalize va_A (wX11 hT aT yT gT) s.heap.size = A at X ⊢
  have hl := lv_entry ([.ref hT]) (n := 1) (Nat.le_of_ble_eq_true rfl)
  rw [lg_entry_eq]
  generalize (lg_sl ([.ref hT]) ++ List.replicate (1 - (lg_sl ([.ref hT])).length) Slot.unset).toArray = ls at hl ⊢
  have hl : lv_has ls 1 [(0, .ref hT)] := hl
  unfold f_X11_told at hF
  refine lv_aload_n hx hb dX11_told_0 rfl (lv_at hl 0 rfl) ?_
  refine va_get (D := D.1) (ci := 11) (v := .long (gL gT 13)) (C := RX11) (T := TX11) (N := 14) hx hb hts wi_X11 hown X.1 X.2.1 0 rfl rfl 13 (by decide) (hts _ q2_160) (fun _ h9 => h9) (fl_get (by decide)) dX11_told_1 ?_
  have hq := Option.some.inj hF
  subst hq
  exact rt_l C X dX11_told_4

/-! ### X11_bellOf -/
theorem dX11_bellOf_0 : decode cX11_bellOf 0 = .ok (.iload_n 1, 1) := by decide +kernel
theorem dX11_bellOf_1 : decode cX11_bellOf 1 = .ok (.bipush 100, 2) := by decide +kernel
theorem dX11_bellOf_3 : decode cX11_bellOf 3 = .ok (.if_icmp .lt 24, 3) := by decide +kernel
theorem dX11_bellOf_6 : decode cX11_bellOf 6 = .ok (.iload_n 1, 1) := by decide +kernel
theorem dX11_bellOf_7 : decode cX11_bellOf 7 = .ok (.bipush 100, 2) := by decide +kernel
theorem dX11_bellOf_9 : decode cX11_bellOf 9 = .ok (.aload_n 0, 1) := by decide +kernel
theorem dX11_bellOf_10 : decode cX11_bellOf 10 = .ok (.getfield 63, 3) := by decide +kernel
theorem dX11_bellOf_13 : decode cX11_bellOf 13 = .ok (.getfield 122, 3) := by decide +kernel
theorem dX11_bellOf_16 : decode cX11_bellOf 16 = .ok (.iadd, 1) := by decide +kernel
theorem dX11_bellOf_17 : decode cX11_bellOf 17 = .ok (.if_icmp .ge 10, 3) := by decide +kernel
theorem dX11_bellOf_20 : decode cX11_bellOf 20 = .ok (.iload_n 1, 1) := by decide +kernel
theorem dX11_bellOf_21 : decode cX11_bellOf 21 = .ok (.bipush 100, 2) := by decide +kernel
theorem dX11_bellOf_23 : decode cX11_bellOf 23 = .ok (.isub, 1) := by decide +kernel
theorem dX11_bellOf_24 : decode cX11_bellOf 24 = .ok (.goto 4, 3) := by decide +kernel
theorem dX11_bellOf_27 : decode cX11_bellOf 27 = .ok (.iconst (-1), 1) := by decide +kernel
theorem dX11_bellOf_28 : decode cX11_bellOf 28 = .ok (.ireturn, 1) := by decide +kernel
abbrev R_X11_bellOf : Room := ({ frames := 0, cells := 0, slots := 0, locals := 0 } : Room)
def f_X11_bellOf (hT_8 : Nat) (gT : Gs) (gT_8 : Gs) (x0 : Int32) : Option (Int32) :=
  if x0 < (100 : Int32) then (some (-1 : Int32)) else (grd (rEq (gR gT 8) hT_8) (if ((100 : Int32) + (gI gT_8 5)) ≤ x0 then (some (-1 : Int32)) else (some (x0 - (100 : Int32)))))
set_option maxHeartbeats 4000000 in
set_option maxRecDepth 100000 in
theorem c_X11_bellOf (l : Launch) (D : Dx) (hT : Nat) (aT : Nat → Nat) (yT : Nat → ClassId) (hT_8 : Nat) (aT_8 : Nat → Nat) (yT_8 : Nat → ClassId) (gT : Gs) (gT_8 : Gs) (x0 : Int32) (q : Int32) (hF : f_X11_bellOf hT_8 gT gT_8 x0 = some q) (sz : Nat) : Met l yX11_bellOf (ws_ yX11_bellOf cX11_bellOf 2 (some .int)) R_X11_bellOf (PC D (tX11 yT ++ (tX4 yT_8)) [.ref hT, .int x0] (wX11 hT aT yT gT ++ (wX4 hT_8 aT_8 yT_8 gT_8)) sz) (QI D (va_A (wX11 hT aT yT gT ++ (wX4 hT_8 aT_8 yT_8 gT_8)) sz) (wX11 hT aT yT gT ++ (wX4 hT_8 aT_8 yT_8 gT_8)) q) 0 0 (va_A (wX11 hT aT yT gT ++ (wX4 hT_8 aT_8 yT_8 gT_8)) sz) := by
  refine Met.ofW (cc := cX11_bellOf) (maxL := 2) (ret := (some .int)) (by decide) rfl ?_
  intro p e s m args below meth c s₁ B hml hv
  obtain ⟨rfl, hsz, hP, hK, hD, hN⟩ := hv
  subst hsz
  have C : Cx p s m _ meth c cX11_bellOf (some .int) 2 RX11 lw_all := Cx_of B hml
  have X := Hx_start hP hK hD hN
  obtain ⟨hx, hb, hr, -, hown, hts, hlk⟩ := id C
  generalize va_A (wX11 hT aT yT gT ++ (wX4 hT_8 aT_8 yT_8 gT_8)) s.heap.size = A at X ⊢
  have hl := lv_entry ([.ref hT, .int x0]) (n := 2) (Nat.le_of_ble_eq_true rfl)
  rw [lg_entry_eq]
  generalize (lg_sl ([.ref hT, .int x0]) ++ List.replicate (2 - (lg_sl ([.ref hT, .int x0])).length) Slot.unset).toArray = ls at hl ⊢
  have hl : lv_has ls 2 [(0, .ref hT), (1, .int x0)] := hl
  unfold f_X11_bellOf at hF
  refine lv_iload_n hx hb dX11_bellOf_0 rfl (lv_at hl 1 rfl) ?_
  refine lv_bipush (v := (100 : Int32)) hx hb dX11_bellOf_1 (by decide) ?_
  refine lv_icmp_lt (tgt := 27) hx hb dX11_bellOf_3 (by decide) (fun c => ?_) (fun c => ?_)
  · replace hF := iT c hF
    refine lv_iconst (v := (-1 : Int32)) hx hb dX11_bellOf_27 (by decide) ?_
    have hq := Option.some.inj hF
    subst hq
    exact rt_i C X dX11_bellOf_28
  · replace hF := iF c hF
    refine lv_iload_n hx hb dX11_bellOf_6 rfl (lv_at hl 1 rfl) ?_
    refine lv_bipush (v := (100 : Int32)) hx hb dX11_bellOf_7 (by decide) ?_
    refine lv_aload_n hx hb dX11_bellOf_9 rfl (lv_at hl 0 rfl) ?_
    obtain ⟨h_1, hF⟩ := grd_some hF
    refine va_get (D := D.1) (ci := 11) (v := .ref hT_8) (C := RX11) (T := TX11) (N := 14) hx hb hts wi_X11 hown X.1 X.2.1 0 rfl rfl 8 (by decide) (hts _ q2_155) (fun _ h9 => h9) ((fl_get (by decide)).trans (rf_eq h_1)) dX11_bellOf_10 ?_
    refine va_getN (D := D.1) (ci := 4) (v := .int (gI gT_8 5)) (C := RX4) (T := TX4) (N := 14) hx hb hts wi_X4 hown X.1 X.2.1 1 rfl rfl 5 (by decide) (X.2.2.2.2.2.1.use q2_87 rfl) (fun _ h9 => h9) (fl_get (by decide)) dX11_bellOf_13 ?_
    refine lv_iadd hx hb dX11_bellOf_16 ?_
    refine lv_icmp_ge (tgt := 27) hx hb dX11_bellOf_17 (by decide) (fun c => ?_) (fun c => ?_)
    · replace hF := iT c hF
      refine lv_iconst (v := (-1 : Int32)) hx hb dX11_bellOf_27 (by decide) ?_
      have hq := Option.some.inj hF
      subst hq
      exact rt_i C X dX11_bellOf_28
    · replace hF := iF c hF
      refine lv_iload_n hx hb dX11_bellOf_20 rfl (lv_at hl 1 rfl) ?_
      refine lv_bipush (v := (100 : Int32)) hx hb dX11_bellOf_21 (by decide) ?_
      refine lv_isub hx hb dX11_bellOf_23 ?_
      refine lv_goto (tgt := 28) hx hb dX11_bellOf_24 (by decide) ?_
      have hq := Option.some.inj hF
      subst hq
      exact rt_i C X dX11_bellOf_28

/-! ### X11_toldOfRow -/
theorem dX11_toldOfRow_0 : decode cX11_toldOfRow 0 = .ok (.iload_n 2, 1) := by decide +kernel
theorem dX11_toldOfRow_1 : decode cX11_toldOfRow 1 = .ok (.tableswitch 71 2 5 #[31, 41, 51, 61], 31) := by decide +kernel
theorem dX11_toldOfRow_32 : decode cX11_toldOfRow 32 = .ok (.aload_n 0, 1) := by decide +kernel
theorem dX11_toldOfRow_33 : decode cX11_toldOfRow 33 = .ok (.getfield 63, 3) := by decide +kernel
theorem dX11_toldOfRow_36 : decode cX11_toldOfRow 36 = .ok (.getfield 164, 3) := by decide +kernel
theorem dX11_toldOfRow_39 : decode cX11_toldOfRow 39 = .ok (.iload_n 1, 1) := by decide +kernel
theorem dX11_toldOfRow_40 : decode cX11_toldOfRow 40 = .ok (.iaload, 1) := by decide +kernel
theorem dX11_toldOfRow_41 : decode cX11_toldOfRow 41 = .ok (.ireturn, 1) := by decide +kernel
theorem dX11_toldOfRow_42 : decode cX11_toldOfRow 42 = .ok (.aload_n 0, 1) := by decide +kernel
theorem dX11_toldOfRow_43 : decode cX11_toldOfRow 43 = .ok (.getfield 27, 3) := by decide +kernel
theorem dX11_toldOfRow_46 : decode cX11_toldOfRow 46 = .ok (.getfield 167, 3) := by decide +kernel
theorem dX11_toldOfRow_49 : decode cX11_toldOfRow 49 = .ok (.iload_n 1, 1) := by decide +kernel
theorem dX11_toldOfRow_50 : decode cX11_toldOfRow 50 = .ok (.iaload, 1) := by decide +kernel
theorem dX11_toldOfRow_51 : decode cX11_toldOfRow 51 = .ok (.ireturn, 1) := by decide +kernel
theorem dX11_toldOfRow_52 : decode cX11_toldOfRow 52 = .ok (.aload_n 0, 1) := by decide +kernel
theorem dX11_toldOfRow_53 : decode cX11_toldOfRow 53 = .ok (.getfield 27, 3) := by decide +kernel
theorem dX11_toldOfRow_56 : decode cX11_toldOfRow 56 = .ok (.getfield 170, 3) := by decide +kernel
theorem dX11_toldOfRow_59 : decode cX11_toldOfRow 59 = .ok (.iload_n 1, 1) := by decide +kernel
theorem dX11_toldOfRow_60 : decode cX11_toldOfRow 60 = .ok (.iaload, 1) := by decide +kernel
theorem dX11_toldOfRow_61 : decode cX11_toldOfRow 61 = .ok (.ireturn, 1) := by decide +kernel
theorem dX11_toldOfRow_62 : decode cX11_toldOfRow 62 = .ok (.aload_n 0, 1) := by decide +kernel
theorem dX11_toldOfRow_63 : decode cX11_toldOfRow 63 = .ok (.getfield 27, 3) := by decide +kernel
theorem dX11_toldOfRow_66 : decode cX11_toldOfRow 66 = .ok (.getfield 173, 3) := by decide +kernel
theorem dX11_toldOfRow_69 : decode cX11_toldOfRow 69 = .ok (.iload_n 1, 1) := by decide +kernel
theorem dX11_toldOfRow_70 : decode cX11_toldOfRow 70 = .ok (.iaload, 1) := by decide +kernel
theorem dX11_toldOfRow_71 : decode cX11_toldOfRow 71 = .ok (.ireturn, 1) := by decide +kernel
theorem dX11_toldOfRow_72 : decode cX11_toldOfRow 72 = .ok (.iconst (-1), 1) := by decide +kernel
theorem dX11_toldOfRow_73 : decode cX11_toldOfRow 73 = .ok (.ireturn, 1) := by decide +kernel
abbrev R_X11_toldOfRow : Room := ({ frames := 0, cells := 0, slots := 0, locals := 0 } : Room)
def f_X11_toldOfRow (hT_8 : Nat) (gT : Gs) (gT_3 : Gs) (gT_8 : Gs) (x0 : Int32) (x1 : Int32) : Option (Int32) :=
  if x1 = (2 : Int32) then (grd (rEq (gR gT 8) hT_8) (grd (inB x0 60) (some (gIA gT_8 2 x0.toNatClampNeg)))) else (if x1 = (3 : Int32) then (grd (inB x0 52) (some (gIA gT_3 6 x0.toNatClampNeg))) else (if x1 = (4 : Int32) then (grd (inB x0 52) (some (gIA gT_3 7 x0.toNatClampNeg))) else (if x1 = (5 : Int32) then (grd (inB x0 52) (some (gIA gT_3 8 x0.toNatClampNeg))) else (some (-1 : Int32)))))
set_option maxHeartbeats 4000000 in
set_option maxRecDepth 100000 in
theorem c_X11_toldOfRow (l : Launch) (D : Dx) (hT : Nat) (aT : Nat → Nat) (yT : Nat → ClassId) (aT_3 : Nat → Nat) (yT_3 : Nat → ClassId) (hT_8 : Nat) (aT_8 : Nat → Nat) (yT_8 : Nat → ClassId) (gT : Gs) (gT_3 : Gs) (gT_8 : Gs) (x0 : Int32) (x1 : Int32) (q : Int32) (hF : f_X11_toldOfRow hT_8 gT gT_3 gT_8 x0 x1 = some q) (sz : Nat) : Met l yX11_toldOfRow (ws_ yX11_toldOfRow cX11_toldOfRow 3 (some .int)) R_X11_toldOfRow (PC D (tX11 yT ++ (tX9 yT_3 ++ (tX4 yT_8))) [.ref hT, .int x0, .int x1] (wX11 hT aT yT gT ++ (wX9 (aT 3) aT_3 yT_3 gT_3 ++ (wX4 hT_8 aT_8 yT_8 gT_8))) sz) (QI D (va_A (wX11 hT aT yT gT ++ (wX9 (aT 3) aT_3 yT_3 gT_3 ++ (wX4 hT_8 aT_8 yT_8 gT_8))) sz) (wX11 hT aT yT gT ++ (wX9 (aT 3) aT_3 yT_3 gT_3 ++ (wX4 hT_8 aT_8 yT_8 gT_8))) q) 0 0 (va_A (wX11 hT aT yT gT ++ (wX9 (aT 3) aT_3 yT_3 gT_3 ++ (wX4 hT_8 aT_8 yT_8 gT_8))) sz) := by
  refine Met.ofW (cc := cX11_toldOfRow) (maxL := 3) (ret := (some .int)) (by decide) rfl ?_
  intro p e s m args below meth c s₁ B hml hv
  obtain ⟨rfl, hsz, hP, hK, hD, hN⟩ := hv
  subst hsz
  have C : Cx p s m _ meth c cX11_toldOfRow (some .int) 3 RX11 lw_all := Cx_of B hml
  have X := Hx_start hP hK hD hN
  obtain ⟨hx, hb, hr, -, hown, hts, hlk⟩ := id C
  generalize va_A (wX11 hT aT yT gT ++ (wX9 (aT 3) aT_3 yT_3 gT_3 ++ (wX4 hT_8 aT_8 yT_8 gT_8))) s.heap.size = A at X ⊢
  have hl := lv_entry ([.ref hT, .int x0, .int x1]) (n := 3) (Nat.le_of_ble_eq_true rfl)
  rw [lg_entry_eq]
  generalize (lg_sl ([.ref hT, .int x0, .int x1]) ++ List.replicate (3 - (lg_sl ([.ref hT, .int x0, .int x1])).length) Slot.unset).toArray = ls at hl ⊢
  have hl : lv_has ls 3 [(0, .ref hT), (1, .int x0), (2, .int x1)] := hl
  unfold f_X11_toldOfRow at hF
  refine lv_iload_n hx hb dX11_toldOfRow_0 rfl (lv_at hl 2 rfl) ?_
  by_cases c2 : x1 = (2 : Int32)
  · replace hF := iT c2 hF
    refine lv_tableIn (tgt := 32) (off := 31) hx hb dX11_toldOfRow_1 (by rw [c2]; decide) (by rw [c2]; decide) (by rw [c2]; rfl) (by decide) ?_
    refine lv_aload_n hx hb dX11_toldOfRow_32 rfl (lv_at hl 0 rfl) ?_
    obtain ⟨h_1, hF⟩ := grd_some hF
    refine va_get (D := D.1) (ci := 11) (v := .ref hT_8) (C := RX11) (T := TX11) (N := 14) hx hb hts wi_X11 hown X.1 X.2.1 0 rfl rfl 8 (by decide) (hts _ q2_155) (fun _ h9 => h9) ((fl_get (by decide)).trans (rf_eq h_1)) dX11_toldOfRow_33 ?_
    refine va_getN (D := D.1) (ci := 4) (v := .ref (aT_8 2)) (C := RX4) (T := TX4) (N := 14) hx hb hts wi_X4 hown X.1 X.2.1 14 rfl rfl 2 (by decide) (X.2.2.2.2.2.1.use q2_76 rfl) (fun _ h9 => h9) (fl_get (by decide)) dX11_toldOfRow_36 ?_
    refine lv_iload_n hx hb dX11_toldOfRow_39 rfl (lv_at hl 1 rfl) ?_
    obtain ⟨h_2, hF⟩ := grd_some hF
    refine va_iald (D := D.1) (f := gIA gT_8 2) hx hb X.1 X.2.1 16 13 rfl rfl (inB_ok h_2) dX11_toldOfRow_40 ?_
    have hq := Option.some.inj hF
    subst hq
    exact rt_i C X dX11_toldOfRow_41
  · replace hF := iF c2 hF
    by_cases c3 : x1 = (3 : Int32)
    · replace hF := iT c3 hF
      refine lv_tableIn (tgt := 42) (off := 41) hx hb dX11_toldOfRow_1 (by rw [c3]; decide) (by rw [c3]; decide) (by rw [c3]; rfl) (by decide) ?_
      refine lv_aload_n hx hb dX11_toldOfRow_42 rfl (lv_at hl 0 rfl) ?_
      refine va_get (D := D.1) (ci := 11) (v := .ref (aT 3)) (C := RX11) (T := TX11) (N := 14) hx hb hts wi_X11 hown X.1 X.2.1 0 rfl rfl 3 (by decide) (hts _ q2_150) (fun _ h9 => h9) (fl_get (by decide)) dX11_toldOfRow_43 ?_
      refine va_getN (D := D.1) (ci := 9) (v := .ref (aT_3 6)) (C := RX9) (T := TX9) (N := 17) hx hb hts wi_X9 hown X.1 X.2.1 1 rfl rfl 6 (by decide) (X.2.2.2.2.2.1.use q1_70 rfl) (fun _ h9 => h9) (fl_get (by decide)) dX11_toldOfRow_46 ?_
      refine lv_iload_n hx hb dX11_toldOfRow_49 rfl (lv_at hl 1 rfl) ?_
      obtain ⟨h_3, hF⟩ := grd_some hF
      refine va_iald (D := D.1) (f := gIA gT_3 6) hx hb X.1 X.2.1 8 6 rfl rfl (inB_ok h_3) dX11_toldOfRow_50 ?_
      have hq := Option.some.inj hF
      subst hq
      exact rt_i C X dX11_toldOfRow_51
    · replace hF := iF c3 hF
      by_cases c4 : x1 = (4 : Int32)
      · replace hF := iT c4 hF
        refine lv_tableIn (tgt := 52) (off := 51) hx hb dX11_toldOfRow_1 (by rw [c4]; decide) (by rw [c4]; decide) (by rw [c4]; rfl) (by decide) ?_
        refine lv_aload_n hx hb dX11_toldOfRow_52 rfl (lv_at hl 0 rfl) ?_
        refine va_get (D := D.1) (ci := 11) (v := .ref (aT 3)) (C := RX11) (T := TX11) (N := 14) hx hb hts wi_X11 hown X.1 X.2.1 0 rfl rfl 3 (by decide) (hts _ q2_150) (fun _ h9 => h9) (fl_get (by decide)) dX11_toldOfRow_53 ?_
        refine va_getN (D := D.1) (ci := 9) (v := .ref (aT_3 7)) (C := RX9) (T := TX9) (N := 17) hx hb hts wi_X9 hown X.1 X.2.1 1 rfl rfl 7 (by decide) (X.2.2.2.2.2.1.use q1_72 rfl) (fun _ h9 => h9) (fl_get (by decide)) dX11_toldOfRow_56 ?_
        refine lv_iload_n hx hb dX11_toldOfRow_59 rfl (lv_at hl 1 rfl) ?_
        obtain ⟨h_4, hF⟩ := grd_some hF
        refine va_iald (D := D.1) (f := gIA gT_3 7) hx hb X.1 X.2.1 9 7 rfl rfl (inB_ok h_4) dX11_toldOfRow_60 ?_
        have hq := Option.some.inj hF
        subst hq
        exact rt_i C X dX11_toldOfRow_61
      · replace hF := iF c4 hF
        by_cases c5 : x1 = (5 : Int32)
        · replace hF := iT c5 hF
          refine lv_tableIn (tgt := 62) (off := 61) hx hb dX11_toldOfRow_1 (by rw [c5]; decide) (by rw [c5]; decide) (by rw [c5]; rfl) (by decide) ?_
          refine lv_aload_n hx hb dX11_toldOfRow_62 rfl (lv_at hl 0 rfl) ?_
          refine va_get (D := D.1) (ci := 11) (v := .ref (aT 3)) (C := RX11) (T := TX11) (N := 14) hx hb hts wi_X11 hown X.1 X.2.1 0 rfl rfl 3 (by decide) (hts _ q2_150) (fun _ h9 => h9) (fl_get (by decide)) dX11_toldOfRow_63 ?_
          refine va_getN (D := D.1) (ci := 9) (v := .ref (aT_3 8)) (C := RX9) (T := TX9) (N := 17) hx hb hts wi_X9 hown X.1 X.2.1 1 rfl rfl 8 (by decide) (X.2.2.2.2.2.1.use q1_74 rfl) (fun _ h9 => h9) (fl_get (by decide)) dX11_toldOfRow_66 ?_
          refine lv_iload_n hx hb dX11_toldOfRow_69 rfl (lv_at hl 1 rfl) ?_
          obtain ⟨h_5, hF⟩ := grd_some hF
          refine va_iald (D := D.1) (f := gIA gT_3 8) hx hb X.1 X.2.1 10 8 rfl rfl (inB_ok h_5) dX11_toldOfRow_70 ?_
          have hq := Option.some.inj hF
          subst hq
          exact rt_i C X dX11_toldOfRow_71
        · replace hF := iF c5 hF
          refine lv_tableOut (tgt := 72) hx hb dX11_toldOfRow_1 (tbl_out (2) (5) 4 (by decide) ⟨tne c2 (by decide), ⟨tne c3 (by decide), ⟨tne c4 (by decide), ⟨tne c5 (by decide), trivial⟩⟩⟩⟩) (by decide) ?_
          refine lv_iconst (v := (-1 : Int32)) hx hb dX11_toldOfRow_72 (by decide) ?_
          have hq := Option.some.inj hF
          subst hq
          exact rt_i C X dX11_toldOfRow_73

/-! ### X11_count -/
theorem dX11_count_0 : decode cX11_count 0 = .ok (.iload_n 1, 1) := by decide +kernel
theorem dX11_count_1 : decode cX11_count 1 = .ok (.tableswitch 111 0 7 #[47, 55, 63, 71, 82, 87, 95, 103], 47) := by decide +kernel
theorem dX11_count_48 : decode cX11_count 48 = .ok (.aload_n 0, 1) := by decide +kernel
theorem dX11_count_49 : decode cX11_count 49 = .ok (.getfield 63, 3) := by decide +kernel
theorem dX11_count_52 : decode cX11_count 52 = .ok (.getfield 116, 3) := by decide +kernel
theorem dX11_count_55 : decode cX11_count 55 = .ok (.ireturn, 1) := by decide +kernel
theorem dX11_count_56 : decode cX11_count 56 = .ok (.aload_n 0, 1) := by decide +kernel
theorem dX11_count_57 : decode cX11_count 57 = .ok (.getfield 63, 3) := by decide +kernel
theorem dX11_count_60 : decode cX11_count 60 = .ok (.getfield 122, 3) := by decide +kernel
theorem dX11_count_63 : decode cX11_count 63 = .ok (.ireturn, 1) := by decide +kernel
theorem dX11_count_64 : decode cX11_count 64 = .ok (.aload_n 0, 1) := by decide +kernel
theorem dX11_count_65 : decode cX11_count 65 = .ok (.getfield 63, 3) := by decide +kernel
theorem dX11_count_68 : decode cX11_count 68 = .ok (.getfield 125, 3) := by decide +kernel
theorem dX11_count_71 : decode cX11_count 71 = .ok (.ireturn, 1) := by decide +kernel
theorem dX11_count_72 : decode cX11_count 72 = .ok (.aload_n 0, 1) := by decide +kernel
theorem dX11_count_73 : decode cX11_count 73 = .ok (.getfield 63, 3) := by decide +kernel
theorem dX11_count_76 : decode cX11_count 76 = .ok (.getfield 128, 3) := by decide +kernel
theorem dX11_count_79 : decode cX11_count 79 = .ok (.getfield 131, 3) := by decide +kernel
theorem dX11_count_82 : decode cX11_count 82 = .ok (.ireturn, 1) := by decide +kernel
theorem dX11_count_83 : decode cX11_count 83 = .ok (.aload_n 0, 1) := by decide +kernel
theorem dX11_count_84 : decode cX11_count 84 = .ok (.getfield 13, 3) := by decide +kernel
theorem dX11_count_87 : decode cX11_count 87 = .ok (.ireturn, 1) := by decide +kernel
theorem dX11_count_88 : decode cX11_count 88 = .ok (.aload_n 0, 1) := by decide +kernel
theorem dX11_count_89 : decode cX11_count 89 = .ok (.getfield 27, 3) := by decide +kernel
theorem dX11_count_92 : decode cX11_count 92 = .ok (.getfield 136, 3) := by decide +kernel
theorem dX11_count_95 : decode cX11_count 95 = .ok (.ireturn, 1) := by decide +kernel
theorem dX11_count_96 : decode cX11_count 96 = .ok (.aload_n 0, 1) := by decide +kernel
theorem dX11_count_97 : decode cX11_count 97 = .ok (.getfield 49, 3) := by decide +kernel
theorem dX11_count_100 : decode cX11_count 100 = .ok (.getfield 139, 3) := by decide +kernel
theorem dX11_count_103 : decode cX11_count 103 = .ok (.ireturn, 1) := by decide +kernel
theorem dX11_count_104 : decode cX11_count 104 = .ok (.aload_n 0, 1) := by decide +kernel
theorem dX11_count_105 : decode cX11_count 105 = .ok (.getfield 56, 3) := by decide +kernel
theorem dX11_count_108 : decode cX11_count 108 = .ok (.getfield 142, 3) := by decide +kernel
theorem dX11_count_111 : decode cX11_count 111 = .ok (.ireturn, 1) := by decide +kernel
theorem dX11_count_112 : decode cX11_count 112 = .ok (.iconst (-1), 1) := by decide +kernel
theorem dX11_count_113 : decode cX11_count 113 = .ok (.ireturn, 1) := by decide +kernel
abbrev R_X11_count : Room := ({ frames := 0, cells := 0, slots := 0, locals := 0 } : Room)
def f_X11_count (hT_8 : Nat) (gT : Gs) (gT_3 : Gs) (gT_6 : Gs) (gT_7 : Gs) (gT_8 : Gs) (gT_8_0 : Gs) (x0 : Int32) : Option (Int32) :=
  if x0 = (0 : Int32) then (grd (rEq (gR gT 8) hT_8) (some (gI gT_8 4))) else (if x0 = (1 : Int32) then (grd (rEq (gR gT 8) hT_8) (some (gI gT_8 5))) else (if x0 = (2 : Int32) then (grd (rEq (gR gT 8) hT_8) (some (gI gT_8 6))) else (if x0 = (3 : Int32) then (grd (rEq (gR gT 8) hT_8) (some (gI gT_8_0 9))) else (if x0 = (4 : Int32) then (some (gI gT 1)) else (if x0 = (5 : Int32) then (some (gI gT_3 12)) else (if x0 = (6 : Int32) then (some (gI gT_6 2)) else (if x0 = (7 : Int32) then (some (gI gT_7 1)) else (some (-1 : Int32)))))))))
set_option maxHeartbeats 4000000 in
set_option maxRecDepth 100000 in
theorem c_X11_count (l : Launch) (D : Dx) (hT : Nat) (aT : Nat → Nat) (yT : Nat → ClassId) (aT_3 : Nat → Nat) (yT_3 : Nat → ClassId) (aT_6 : Nat → Nat) (yT_6 : Nat → ClassId) (aT_7 : Nat → Nat) (yT_7 : Nat → ClassId) (hT_8 : Nat) (aT_8 : Nat → Nat) (yT_8 : Nat → ClassId) (aT_8_0 : Nat → Nat) (yT_8_0 : Nat → ClassId) (gT : Gs) (gT_3 : Gs) (gT_6 : Gs) (gT_7 : Gs) (gT_8 : Gs) (gT_8_0 : Gs) (x0 : Int32) (q : Int32) (hF : f_X11_count hT_8 gT gT_3 gT_6 gT_7 gT_8 gT_8_0 x0 = some q) (sz : Nat) : Met l yX11_count (ws_ yX11_count cX11_count 2 (some .int)) R_X11_count (PC D (tX11 yT ++ (tX9 yT_3 ++ (tX3 yT_6 ++ (tX10 yT_7 ++ (tX4 yT_8 ++ (tX0 yT_8_0)))))) [.ref hT, .int x0] (wX11 hT aT yT gT ++ (wX9 (aT 3) aT_3 yT_3 gT_3 ++ (wX3 (aT 6) aT_6 yT_6 gT_6 ++ (wX10 (aT 7) aT_7 yT_7 gT_7 ++ (wX4 hT_8 aT_8 yT_8 gT_8 ++ (wX0 (aT_8 0) aT_8_0 yT_8_0 gT_8_0)))))) sz) (QI D (va_A (wX11 hT aT yT gT ++ (wX9 (aT 3) aT_3 yT_3 gT_3 ++ (wX3 (aT 6) aT_6 yT_6 gT_6 ++ (wX10 (aT 7) aT_7 yT_7 gT_7 ++ (wX4 hT_8 aT_8 yT_8 gT_8 ++ (wX0 (aT_8 0) aT_8_0 yT_8_0 gT_8_0)))))) sz) (wX11 hT aT yT gT ++ (wX9 (aT 3) aT_3 yT_3 gT_3 ++ (wX3 (aT 6) aT_6 yT_6 gT_6 ++ (wX10 (aT 7) aT_7 yT_7 gT_7 ++ (wX4 hT_8 aT_8 yT_8 gT_8 ++ (wX0 (aT_8 0) aT_8_0 yT_8_0 gT_8_0)))))) q) 0 0 (va_A (wX11 hT aT yT gT ++ (wX9 (aT 3) aT_3 yT_3 gT_3 ++ (wX3 (aT 6) aT_6 yT_6 gT_6 ++ (wX10 (aT 7) aT_7 yT_7 gT_7 ++ (wX4 hT_8 aT_8 yT_8 gT_8 ++ (wX0 (aT_8 0) aT_8_0 yT_8_0 gT_8_0)))))) sz) := by
  refine Met.ofW (cc := cX11_count) (maxL := 2) (ret := (some .int)) (by decide) rfl ?_
  intro p e s m args below meth c s₁ B hml hv
  obtain ⟨rfl, hsz, hP, hK, hD, hN⟩ := hv
  subst hsz
  have C : Cx p s m _ meth c cX11_count (some .int) 2 RX11 lw_all := Cx_of B hml
  have X := Hx_start hP hK hD hN
  obtain ⟨hx, hb, hr, -, hown, hts, hlk⟩ := id C
  generalize va_A (wX11 hT aT yT gT ++ (wX9 (aT 3) aT_3 yT_3 gT_3 ++ (wX3 (aT 6) aT_6 yT_6 gT_6 ++ (wX10 (aT 7) aT_7 yT_7 gT_7 ++ (wX4 hT_8 aT_8 yT_8 gT_8 ++ (wX0 (aT_8 0) aT_8_0 yT_8_0 gT_8_0)))))) s.heap.size = A at X ⊢
  have hl := lv_entry ([.ref hT, .int x0]) (n := 2) (Nat.le_of_ble_eq_true rfl)
  rw [lg_entry_eq]
  generalize (lg_sl ([.ref hT, .int x0]) ++ List.replicate (2 - (lg_sl ([.ref hT, .int x0])).length) Slot.unset).toArray = ls at hl ⊢
  have hl : lv_has ls 2 [(0, .ref hT), (1, .int x0)] := hl
  unfold f_X11_count at hF
  refine lv_iload_n hx hb dX11_count_0 rfl (lv_at hl 1 rfl) ?_
  by_cases c0 : x0 = (0 : Int32)
  · replace hF := iT c0 hF
    refine lv_tableIn (tgt := 48) (off := 47) hx hb dX11_count_1 (by rw [c0]; decide) (by rw [c0]; decide) (by rw [c0]; rfl) (by decide) ?_
    refine lv_aload_n hx hb dX11_count_48 rfl (lv_at hl 0 rfl) ?_
    obtain ⟨h_1, hF⟩ := grd_some hF
    refine va_get (D := D.1) (ci := 11) (v := .ref hT_8) (C := RX11) (T := TX11) (N := 14) hx hb hts wi_X11 hown X.1 X.2.1 0 rfl rfl 8 (by decide) (hts _ q2_155) (fun _ h9 => h9) ((fl_get (by decide)).trans (rf_eq h_1)) dX11_count_49 ?_
    refine va_getN (D := D.1) (ci := 4) (v := .int (gI gT_8 4)) (C := RX4) (T := TX4) (N := 14) hx hb hts wi_X4 hown X.1 X.2.1 18 rfl rfl 4 (by decide) (X.2.2.2.2.2.1.use q2_82 rfl) (fun _ h9 => h9) (fl_get (by decide)) dX11_count_52 ?_
    have hq := Option.some.inj hF
    subst hq
    exact rt_i C X dX11_count_55
  · replace hF := iF c0 hF
    by_cases c1 : x0 = (1 : Int32)
    · replace hF := iT c1 hF
      refine lv_tableIn (tgt := 56) (off := 55) hx hb dX11_count_1 (by rw [c1]; decide) (by rw [c1]; decide) (by rw [c1]; rfl) (by decide) ?_
      refine lv_aload_n hx hb dX11_count_56 rfl (lv_at hl 0 rfl) ?_
      obtain ⟨h_2, hF⟩ := grd_some hF
      refine va_get (D := D.1) (ci := 11) (v := .ref hT_8) (C := RX11) (T := TX11) (N := 14) hx hb hts wi_X11 hown X.1 X.2.1 0 rfl rfl 8 (by decide) (hts _ q2_155) (fun _ h9 => h9) ((fl_get (by decide)).trans (rf_eq h_2)) dX11_count_57 ?_
      refine va_getN (D := D.1) (ci := 4) (v := .int (gI gT_8 5)) (C := RX4) (T := TX4) (N := 14) hx hb hts wi_X4 hown X.1 X.2.1 18 rfl rfl 5 (by decide) (X.2.2.2.2.2.1.use q2_87 rfl) (fun _ h9 => h9) (fl_get (by decide)) dX11_count_60 ?_
      have hq := Option.some.inj hF
      subst hq
      exact rt_i C X dX11_count_63
    · replace hF := iF c1 hF
      by_cases c2 : x0 = (2 : Int32)
      · replace hF := iT c2 hF
        refine lv_tableIn (tgt := 64) (off := 63) hx hb dX11_count_1 (by rw [c2]; decide) (by rw [c2]; decide) (by rw [c2]; rfl) (by decide) ?_
        refine lv_aload_n hx hb dX11_count_64 rfl (lv_at hl 0 rfl) ?_
        obtain ⟨h_3, hF⟩ := grd_some hF
        refine va_get (D := D.1) (ci := 11) (v := .ref hT_8) (C := RX11) (T := TX11) (N := 14) hx hb hts wi_X11 hown X.1 X.2.1 0 rfl rfl 8 (by decide) (hts _ q2_155) (fun _ h9 => h9) ((fl_get (by decide)).trans (rf_eq h_3)) dX11_count_65 ?_
        refine va_getN (D := D.1) (ci := 4) (v := .int (gI gT_8 6)) (C := RX4) (T := TX4) (N := 14) hx hb hts wi_X4 hown X.1 X.2.1 18 rfl rfl 6 (by decide) (X.2.2.2.2.2.1.use q2_91 rfl) (fun _ h9 => h9) (fl_get (by decide)) dX11_count_68 ?_
        have hq := Option.some.inj hF
        subst hq
        exact rt_i C X dX11_count_71
      · replace hF := iF c2 hF
        by_cases c3 : x0 = (3 : Int32)
        · replace hF := iT c3 hF
          refine lv_tableIn (tgt := 72) (off := 71) hx hb dX11_count_1 (by rw [c3]; decide) (by rw [c3]; decide) (by rw [c3]; rfl) (by decide) ?_
          refine lv_aload_n hx hb dX11_count_72 rfl (lv_at hl 0 rfl) ?_
          obtain ⟨h_4, hF⟩ := grd_some hF
          refine va_get (D := D.1) (ci := 11) (v := .ref hT_8) (C := RX11) (T := TX11) (N := 14) hx hb hts wi_X11 hown X.1 X.2.1 0 rfl rfl 8 (by decide) (hts _ q2_155) (fun _ h9 => h9) ((fl_get (by decide)).trans (rf_eq h_4)) dX11_count_73 ?_
          refine va_getN (D := D.1) (ci := 4) (v := .ref (aT_8 0)) (C := RX4) (T := TX4) (N := 14) hx hb hts wi_X4 hown X.1 X.2.1 18 rfl rfl 0 (by decide) (X.2.2.2.2.2.1.use q2_71 rfl) (fun _ h9 => h9) (fl_get (by decide)) dX11_count_76 ?_
          refine va_getN (D := D.1) (ci := 0) (v := .int (gI gT_8_0 9)) (C := RX0) (T := TX0) (N := 19) hx hb hts wi_X0 hown X.1 X.2.1 29 rfl rfl 9 (by decide) (X.2.2.2.2.2.1.use q2_0 rfl) (fun _ h9 => h9) (fl_get (by decide)) dX11_count_79 ?_
          have hq := Option.some.inj hF
          subst hq
          exact rt_i C X dX11_count_82
        · replace hF := iF c3 hF
          by_cases c4 : x0 = (4 : Int32)
          · replace hF := iT c4 hF
            refine lv_tableIn (tgt := 83) (off := 82) hx hb dX11_count_1 (by rw [c4]; decide) (by rw [c4]; decide) (by rw [c4]; rfl) (by decide) ?_
            refine lv_aload_n hx hb dX11_count_83 rfl (lv_at hl 0 rfl) ?_
            refine va_get (D := D.1) (ci := 11) (v := .int (gI gT 1)) (C := RX11) (T := TX11) (N := 14) hx hb hts wi_X11 hown X.1 X.2.1 0 rfl rfl 1 (by decide) (hts _ q2_148) (fun _ h9 => h9) (fl_get (by decide)) dX11_count_84 ?_
            have hq := Option.some.inj hF
            subst hq
            exact rt_i C X dX11_count_87
          · replace hF := iF c4 hF
            by_cases c5 : x0 = (5 : Int32)
            · replace hF := iT c5 hF
              refine lv_tableIn (tgt := 88) (off := 87) hx hb dX11_count_1 (by rw [c5]; decide) (by rw [c5]; decide) (by rw [c5]; rfl) (by decide) ?_
              refine lv_aload_n hx hb dX11_count_88 rfl (lv_at hl 0 rfl) ?_
              refine va_get (D := D.1) (ci := 11) (v := .ref (aT 3)) (C := RX11) (T := TX11) (N := 14) hx hb hts wi_X11 hown X.1 X.2.1 0 rfl rfl 3 (by decide) (hts _ q2_150) (fun _ h9 => h9) (fl_get (by decide)) dX11_count_89 ?_
              refine va_getN (D := D.1) (ci := 9) (v := .int (gI gT_3 12)) (C := RX9) (T := TX9) (N := 17) hx hb hts wi_X9 hown X.1 X.2.1 1 rfl rfl 12 (by decide) (X.2.2.2.2.2.1.use q1_82 rfl) (fun _ h9 => h9) (fl_get (by decide)) dX11_count_92 ?_
              have hq := Option.some.inj hF
              subst hq
              exact rt_i C X dX11_count_95
            · replace hF := iF c5 hF
              by_cases c6 : x0 = (6 : Int32)
              · replace hF := iT c6 hF
                refine lv_tableIn (tgt := 96) (off := 95) hx hb dX11_count_1 (by rw [c6]; decide) (by rw [c6]; decide) (by rw [c6]; rfl) (by decide) ?_
                refine lv_aload_n hx hb dX11_count_96 rfl (lv_at hl 0 rfl) ?_
                refine va_get (D := D.1) (ci := 11) (v := .ref (aT 6)) (C := RX11) (T := TX11) (N := 14) hx hb hts wi_X11 hown X.1 X.2.1 0 rfl rfl 6 (by decide) (hts _ q2_153) (fun _ h9 => h9) (fl_get (by decide)) dX11_count_97 ?_
                refine va_getN (D := D.1) (ci := 3) (v := .int (gI gT_6 2)) (C := RX3) (T := TX3) (N := 3) hx hb hts wi_X3 hown X.1 X.2.1 14 rfl rfl 2 (by decide) (X.2.2.2.2.2.1.use q1_172 rfl) (fun _ h9 => h9) (fl_get (by decide)) dX11_count_100 ?_
                have hq := Option.some.inj hF
                subst hq
                exact rt_i C X dX11_count_103
              · replace hF := iF c6 hF
                by_cases c7 : x0 = (7 : Int32)
                · replace hF := iT c7 hF
                  refine lv_tableIn (tgt := 104) (off := 103) hx hb dX11_count_1 (by rw [c7]; decide) (by rw [c7]; decide) (by rw [c7]; rfl) (by decide) ?_
                  refine lv_aload_n hx hb dX11_count_104 rfl (lv_at hl 0 rfl) ?_
                  refine va_get (D := D.1) (ci := 11) (v := .ref (aT 7)) (C := RX11) (T := TX11) (N := 14) hx hb hts wi_X11 hown X.1 X.2.1 0 rfl rfl 7 (by decide) (hts _ q2_154) (fun _ h9 => h9) (fl_get (by decide)) dX11_count_105 ?_
                  refine va_getN (D := D.1) (ci := 10) (v := .int (gI gT_7 1)) (C := RX10) (T := TX10) (N := 2) hx hb hts wi_X10 hown X.1 X.2.1 16 rfl rfl 1 (by decide) (X.2.2.2.2.2.1.use q1_189 rfl) (fun _ h9 => h9) (fl_get (by decide)) dX11_count_108 ?_
                  have hq := Option.some.inj hF
                  subst hq
                  exact rt_i C X dX11_count_111
                · replace hF := iF c7 hF
                  refine lv_tableOut (tgt := 112) hx hb dX11_count_1 (tbl_out (0) (7) 8 (by decide) ⟨tne c0 (by decide), ⟨tne c1 (by decide), ⟨tne c2 (by decide), ⟨tne c3 (by decide), ⟨tne c4 (by decide), ⟨tne c5 (by decide), ⟨tne c6 (by decide), ⟨tne c7 (by decide), trivial⟩⟩⟩⟩⟩⟩⟩⟩) (by decide) ?_
                  refine lv_iconst (v := (-1 : Int32)) hx hb dX11_count_112 (by decide) ?_
                  have hq := Option.some.inj hF
                  subst hq
                  exact rt_i C X dX11_count_113

/-! ### X11_thing -/
theorem dX11_thing_0 : decode cX11_thing 0 = .ok (.iload_n 1, 1) := by decide +kernel
theorem dX11_thing_1 : decode cX11_thing 1 = .ok (.ifCond .lt 78, 3) := by decide +kernel
theorem dX11_thing_4 : decode cX11_thing 4 = .ok (.iload_n 1, 1) := by decide +kernel
theorem dX11_thing_5 : decode cX11_thing 5 = .ok (.aload_n 0, 1) := by decide +kernel
theorem dX11_thing_6 : decode cX11_thing 6 = .ok (.getfield 63, 3) := by decide +kernel
theorem dX11_thing_9 : decode cX11_thing 9 = .ok (.getfield 116, 3) := by decide +kernel
theorem dX11_thing_12 : decode cX11_thing 12 = .ok (.if_icmp .ge 67, 3) := by decide +kernel
theorem dX11_thing_15 : decode cX11_thing 15 = .ok (.iload_n 2, 1) := by decide +kernel
theorem dX11_thing_16 : decode cX11_thing 16 = .ok (.lookupswitch 56 #[(0, 28), (1, 38)], 28) := by decide +kernel
theorem dX11_thing_44 : decode cX11_thing 44 = .ok (.aload_n 0, 1) := by decide +kernel
theorem dX11_thing_45 : decode cX11_thing 45 = .ok (.getfield 63, 3) := by decide +kernel
theorem dX11_thing_48 : decode cX11_thing 48 = .ok (.getfield 145, 3) := by decide +kernel
theorem dX11_thing_51 : decode cX11_thing 51 = .ok (.iload_n 1, 1) := by decide +kernel
theorem dX11_thing_52 : decode cX11_thing 52 = .ok (.iaload, 1) := by decide +kernel
theorem dX11_thing_53 : decode cX11_thing 53 = .ok (.ireturn, 1) := by decide +kernel
theorem dX11_thing_54 : decode cX11_thing 54 = .ok (.aload_n 0, 1) := by decide +kernel
theorem dX11_thing_55 : decode cX11_thing 55 = .ok (.getfield 63, 3) := by decide +kernel
theorem dX11_thing_58 : decode cX11_thing 58 = .ok (.getfield 149, 3) := by decide +kernel
theorem dX11_thing_61 : decode cX11_thing 61 = .ok (.iload_n 1, 1) := by decide +kernel
theorem dX11_thing_62 : decode cX11_thing 62 = .ok (.baload, 1) := by decide +kernel
theorem dX11_thing_63 : decode cX11_thing 63 = .ok (.ifCond .eq 7, 3) := by decide +kernel
theorem dX11_thing_66 : decode cX11_thing 66 = .ok (.iconst 1, 1) := by decide +kernel
theorem dX11_thing_67 : decode cX11_thing 67 = .ok (.goto 4, 3) := by decide +kernel
theorem dX11_thing_70 : decode cX11_thing 70 = .ok (.iconst 0, 1) := by decide +kernel
theorem dX11_thing_71 : decode cX11_thing 71 = .ok (.ireturn, 1) := by decide +kernel
theorem dX11_thing_72 : decode cX11_thing 72 = .ok (.aload_n 0, 1) := by decide +kernel
theorem dX11_thing_73 : decode cX11_thing 73 = .ok (.iload_n 1, 1) := by decide +kernel
theorem dX11_thing_74 : decode cX11_thing 74 = .ok (.iload_n 2, 1) := by decide +kernel
theorem dX11_thing_75 : decode cX11_thing 75 = .ok (.invokevirtual 153, 3) := by decide +kernel
theorem dX11_thing_78 : decode cX11_thing 78 = .ok (.ireturn, 1) := by decide +kernel
theorem dX11_thing_79 : decode cX11_thing 79 = .ok (.aload_n 0, 1) := by decide +kernel
theorem dX11_thing_80 : decode cX11_thing 80 = .ok (.iload_n 1, 1) := by decide +kernel
theorem dX11_thing_81 : decode cX11_thing 81 = .ok (.invokevirtual 157, 3) := by decide +kernel
theorem dX11_thing_84 : decode cX11_thing 84 = .ok (.istore_n 3, 1) := by decide +kernel
theorem dX11_thing_85 : decode cX11_thing 85 = .ok (.iload_n 3, 1) := by decide +kernel
theorem dX11_thing_86 : decode cX11_thing 86 = .ok (.iconst (-1), 1) := by decide +kernel
theorem dX11_thing_87 : decode cX11_thing 87 = .ok (.if_icmp .ne 5, 3) := by decide +kernel
theorem dX11_thing_90 : decode cX11_thing 90 = .ok (.iconst (-1), 1) := by decide +kernel
theorem dX11_thing_91 : decode cX11_thing 91 = .ok (.ireturn, 1) := by decide +kernel
theorem dX11_thing_92 : decode cX11_thing 92 = .ok (.iload_n 2, 1) := by decide +kernel
theorem dX11_thing_93 : decode cX11_thing 93 = .ok (.bipush 6, 2) := by decide +kernel
theorem dX11_thing_95 : decode cX11_thing 95 = .ok (.if_icmp .ne 15, 3) := by decide +kernel
theorem dX11_thing_98 : decode cX11_thing 98 = .ok (.aload_n 0, 1) := by decide +kernel
theorem dX11_thing_99 : decode cX11_thing 99 = .ok (.getfield 27, 3) := by decide +kernel
theorem dX11_thing_102 : decode cX11_thing 102 = .ok (.getfield 161, 3) := by decide +kernel
theorem dX11_thing_105 : decode cX11_thing 105 = .ok (.iload_n 3, 1) := by decide +kernel
theorem dX11_thing_106 : decode cX11_thing 106 = .ok (.iaload, 1) := by decide +kernel
theorem dX11_thing_107 : decode cX11_thing 107 = .ok (.goto 12, 3) := by decide +kernel
theorem dX11_thing_110 : decode cX11_thing 110 = .ok (.aload_n 0, 1) := by decide +kernel
theorem dX11_thing_111 : decode cX11_thing 111 = .ok (.bipush 40, 2) := by decide +kernel
theorem dX11_thing_113 : decode cX11_thing 113 = .ok (.iload_n 3, 1) := by decide +kernel
theorem dX11_thing_114 : decode cX11_thing 114 = .ok (.iadd, 1) := by decide +kernel
theorem dX11_thing_115 : decode cX11_thing 115 = .ok (.iload_n 2, 1) := by decide +kernel
theorem dX11_thing_116 : decode cX11_thing 116 = .ok (.invokevirtual 153, 3) := by decide +kernel
theorem dX11_thing_119 : decode cX11_thing 119 = .ok (.ireturn, 1) := by decide +kernel
abbrev R_X11_thing : Room := ({ frames := 1, cells := 0, slots := 0, locals := 22 } : Room)
def b_X11_thing_79 (hT_8 : Nat) (gT : Gs) (gT_3 : Gs) (gT_8 : Gs) (v1 : Int32) (v2 : Int32) : Option (Int32) :=
  bnd (f_X11_bellOf hT_8 gT gT_8 v1) (fun q_1 => if q_1 = (-1 : Int32) then (some (-1 : Int32)) else (if v2 = (6 : Int32) then (grd (inB q_1 12) (some (gIA gT_3 9 q_1.toNatClampNeg))) else (bnd (f_X11_toldOfRow hT_8 gT gT_3 gT_8 ((40 : Int32) + q_1) v2) (fun q_3 => some q_3))))
def f_X11_thing (hT_8 : Nat) (gT : Gs) (gT_3 : Gs) (gT_8 : Gs) (x0 : Int32) (x1 : Int32) : Option (Int32) :=
  if x0 < 0 then (b_X11_thing_79 hT_8 gT gT_3 gT_8 x0 x1) else (grd (rEq (gR gT 8) hT_8) (if (gI gT_8 4) ≤ x0 then (b_X11_thing_79 hT_8 gT gT_3 gT_8 x0 x1) else (if x1 = (0 : Int32) then (grd (rEq (gR gT 8) hT_8) (grd (inB x0 40) (some (gIA gT_8 7 x0.toNatClampNeg)))) else (if x1 = (1 : Int32) then (grd (rEq (gR gT 8) hT_8) (grd (inB x0 40) (if (gIA gT_8 8 x0.toNatClampNeg) = 0 then (some (0 : Int32)) else (some (1 : Int32))))) else (bnd (f_X11_toldOfRow hT_8 gT gT_3 gT_8 x0 x1) (fun q_11 => some q_11))))))
def S_X11_thing_79 (l : Launch) (D : Dx) (hT : Nat) (aT : Nat → Nat) (yT : Nat → ClassId) (aT_3 : Nat → Nat) (yT_3 : Nat → ClassId) (hT_8 : Nat) (aT_8 : Nat → Nat) (yT_8 : Nat → ClassId) (fn : Gs → Gs → Gs → Int32 → Int32 → Option (Int32)) : Prop :=
  ∀ {p : Program} {e : Env} {s : State} {m : MethodId} {args : Array Value} {below : List Frame} {meth : Method} {c : Code} {H : Heap} {locs : List Loc} {A : Nat → Prop} {ls : Array Slot} {gT : Gs} {gT_3 : Gs} {gT_8 : Gs} {v1 : Int32} {v2 : Int32} {q : Int32}, Cx p s m args meth c cX11_thing (some .int) 4 RX11 lw_all → Hx D (tX11 yT ++ (tX9 yT_3 ++ (tX4 yT_8))) A s H locs (wX11 hT aT yT gT ++ (wX9 (aT 3) aT_3 yT_3 gT_3 ++ (wX4 hT_8 aT_8 yT_8 gT_8))) → lv_has ls 4 [(0, .ref hT), (1, .int v1), (2, .int v2)] → fn gT gT_3 gT_8 v1 v2 = some q → W p l e R_X11_thing s m args below meth c H locs 0 0 (MQ below (QI D A (wX11 hT aT yT gT ++ (wX9 (aT 3) aT_3 yT_3 gT_3 ++ (wX4 hT_8 aT_8 yT_8 gT_8))) q) args s 0 0 A) (F0 m 79 ls [])
set_option maxHeartbeats 4000000 in
set_option maxRecDepth 100000 in
theorem k_X11_thing_79 (l : Launch) (D : Dx) (hT : Nat) (aT : Nat → Nat) (yT : Nat → ClassId) (aT_3 : Nat → Nat) (yT_3 : Nat → ClassId) (hT_8 : Nat) (aT_8 : Nat → Nat) (yT_8 : Nat → ClassId) : S_X11_thing_79 l D hT aT yT aT_3 yT_3 hT_8 aT_8 yT_8 (b_X11_thing_79 hT_8) := by
  intro p e s m args below meth c H locs A ls gT gT_3 gT_8 v1 v2 q C X hl hF
  obtain ⟨hx, hb, hr, hml, hown, hts, hlk⟩ := id C
  unfold b_X11_thing_79 at hF
  refine lv_aload_n hx hb dX11_thing_79 rfl (lv_at hl 0 rfl) ?_
  refine lv_iload_n hx hb dX11_thing_80 rfl (lv_at hl 1 rfl) ?_
  obtain ⟨q_1, hc_2, hF⟩ := bnd_some hF
  refine cV_i (As := [.int v1]) (rest := []) C X (c_X11_bellOf l D hT aT yT hT_8 aT_8 yT_8 gT gT_8 v1 q_1 hc_2 _) (cwV 1 hts (good_V q5_165 q5_167 q0_59 q1_1 q5_168) rfl rfl rfl (by decide +kernel) ⟨Nat.le_of_ble_eq_true rfl, Nat.le_of_ble_eq_true rfl⟩) (va_recv X.1 X.2.1 (ci := 11) (q0 := 0) rfl rfl) (X.1.sub (tys' := tX11 yT ++ (tX4 yT_8)) [12, 13, 14, 15, 16, 17, 18, 19, 20, 21] rfl) (X.2.1.sub (ws' := wX11 hT aT yT gT ++ (wX4 hT_8 aT_8 yT_8 gT_8)) [0, 14, 15, 16, 17, 18, 19, 20, 21, 22, 23, 24] rfl) (X.2.2.1.sub (ws' := wX11 hT aT yT gT ++ (wX4 hT_8 aT_8 yT_8 gT_8)) [0, 14, 15, 16, 17, 18, 19, 20, 21, 22, 23, 24] (by decide) rfl) (free_of (wC := wX11 hT aT yT gT ++ (wX4 hT_8 aT_8 yT_8 gT_8)) (isC := [0, 14, 15, 16, 17, 18, 19, 20, 21, 22, 23, 24]) X rfl) hl.1 rfl rfl (Nat.le_of_ble_eq_true rfl) dX11_thing_81 ⟨Nat.le_of_ble_eq_true rfl, Nat.le_of_ble_eq_true rfl⟩ (fun t H1 locs1 ht hB hk hS => ?_)
  have X : Hx D (tX11 yT ++ (tX9 yT_3 ++ (tX4 yT_8))) A s H1 locs1 (wX11 hT aT yT gT ++ (wX9 (aT 3) aT_3 yT_3 gT_3 ++ (wX4 hT_8 aT_8 yT_8 gT_8))) := Hx_after (isC := [0, 14, 15, 16, 17, 18, 19, 20, 21, 22, 23, 24]) (isR := [1, 2, 3, 4, 5, 6, 7, 8, 9, 10, 11, 12, 13]) (pm := [13, 0, 1, 2, 3, 4, 5, 6, 7, 8, 9, 10, 11, 12, 14, 15, 16, 17, 18, 19, 20, 21, 22, 23, 24]) (wr := wX9 (aT 3) aT_3 yT_3 gT_3) X ⟨rfl, rfl, by decide, by decide, rfl, by decide⟩ ht hB hk hS
  clear hk hS ht hB
  generalize H1 = H at X ⊢
  generalize locs1 = locs at X ⊢
  refine lv_istore_n (lv' := [(3, .int q_1), (0, .ref hT), (1, .int v1), (2, .int v2)]) hx hb dX11_thing_84 rfl hl (by decide) rfl (fun ls hl => ?_)
  refine lv_iload_n hx hb dX11_thing_85 rfl (lv_at hl 0 rfl) ?_
  refine lv_iconst (v := (-1 : Int32)) hx hb dX11_thing_86 (by decide) ?_
  refine lv_icmp_ne (tgt := 92) hx hb dX11_thing_87 (by decide) (fun c => ?_) (fun c => ?_)
  · replace hF := iF c hF
    refine lv_iload_n hx hb dX11_thing_92 rfl (lv_at hl 3 rfl) ?_
    refine lv_bipush (v := (6 : Int32)) hx hb dX11_thing_93 (by decide) ?_
    refine lv_icmp_ne (tgt := 110) hx hb dX11_thing_95 (by decide) (fun c => ?_) (fun c => ?_)
    · replace hF := iF c hF
      refine lv_aload_n hx hb dX11_thing_110 rfl (lv_at hl 1 rfl) ?_
      refine lv_bipush (v := (40 : Int32)) hx hb dX11_thing_111 (by decide) ?_
      refine lv_iload_n hx hb dX11_thing_113 rfl (lv_at hl 0 rfl) ?_
      refine lv_iadd hx hb dX11_thing_114 ?_
      refine lv_iload_n hx hb dX11_thing_115 rfl (lv_at hl 3 rfl) ?_
      obtain ⟨q_3, hc_4, hF⟩ := bnd_some hF
      refine cV_i (As := [.int ((40 : Int32) + q_1), .int v2]) (rest := []) C X (c_X11_toldOfRow l D hT aT yT aT_3 yT_3 hT_8 aT_8 yT_8 gT gT_3 gT_8 ((40 : Int32) + q_1) v2 q_3 hc_4 _) (cwV 2 hts (good_V q5_161 q5_163 q0_58 q1_1 q5_164) rfl rfl rfl (by decide +kernel) ⟨Nat.le_of_ble_eq_true rfl, Nat.le_of_ble_eq_true rfl⟩) (va_recv X.1 X.2.1 (ci := 11) (q0 := 0) rfl rfl) X.1 X.2.1 X.2.2.1 (free_all X) hl.1 rfl rfl (Nat.le_of_ble_eq_true rfl) dX11_thing_116 ⟨Nat.le_of_ble_eq_true rfl, Nat.le_of_ble_eq_true rfl⟩ (fun t H1 locs1 ht hB hk hS => ?_)
      have X : Hx D (tX11 yT ++ (tX9 yT_3 ++ (tX4 yT_8))) A s H1 locs1 (wX11 hT aT yT gT ++ (wX9 (aT 3) aT_3 yT_3 gT_3 ++ (wX4 hT_8 aT_8 yT_8 gT_8))) := Hx_after_all X ht hB hS
      clear hk hS ht hB
      generalize H1 = H at X ⊢
      generalize locs1 = locs at X ⊢
      have hq := Option.some.inj hF
      subst hq
      exact rt_i C X dX11_thing_119
    · replace hF := iT c hF
      refine lv_aload_n hx hb dX11_thing_98 rfl (lv_at hl 1 rfl) ?_
      refine va_get (D := D.1) (ci := 11) (v := .ref (aT 3)) (C := RX11) (T := TX11) (N := 14) hx hb hts wi_X11 hown X.1 X.2.1 0 rfl rfl 3 (by decide) (hts _ q2_150) (fun _ h9 => h9) (fl_get (by decide)) dX11_thing_99 ?_
      refine va_getN (D := D.1) (ci := 9) (v := .ref (aT_3 9)) (C := RX9) (T := TX9) (N := 17) hx hb hts wi_X9 hown X.1 X.2.1 1 rfl rfl 9 (by decide) (X.2.2.2.2.2.1.use q1_76 rfl) (fun _ h9 => h9) (fl_get (by decide)) dX11_thing_102 ?_
      refine lv_iload_n hx hb dX11_thing_105 rfl (lv_at hl 0 rfl) ?_
      obtain ⟨h_5, hF⟩ := grd_some hF
      refine va_iald (D := D.1) (f := gIA gT_3 9) hx hb X.1 X.2.1 11 9 rfl rfl (inB_ok h_5) dX11_thing_106 ?_
      refine lv_goto (tgt := 119) hx hb dX11_thing_107 (by decide) ?_
      have hq := Option.some.inj hF
      subst hq
      exact rt_i C X dX11_thing_119
  · replace hF := iT c hF
    refine lv_iconst (v := (-1 : Int32)) hx hb dX11_thing_90 (by decide) ?_
    have hq := Option.some.inj hF
    subst hq
    exact rt_i C X dX11_thing_91
set_option maxHeartbeats 4000000 in
set_option maxRecDepth 100000 in
theorem c_X11_thing (l : Launch) (D : Dx) (hT : Nat) (aT : Nat → Nat) (yT : Nat → ClassId) (aT_3 : Nat → Nat) (yT_3 : Nat → ClassId) (hT_8 : Nat) (aT_8 : Nat → Nat) (yT_8 : Nat → ClassId) (gT : Gs) (gT_3 : Gs) (gT_8 : Gs) (x0 : Int32) (x1 : Int32) (q : Int32) (hF : f_X11_thing hT_8 gT gT_3 gT_8 x0 x1 = some q) (sz : Nat) : Met l yX11_thing (ws_ yX11_thing cX11_thing 4 (some .int)) R_X11_thing (PC D (tX11 yT ++ (tX9 yT_3 ++ (tX4 yT_8))) [.ref hT, .int x0, .int x1] (wX11 hT aT yT gT ++ (wX9 (aT 3) aT_3 yT_3 gT_3 ++ (wX4 hT_8 aT_8 yT_8 gT_8))) sz) (QI D (va_A (wX11 hT aT yT gT ++ (wX9 (aT 3) aT_3 yT_3 gT_3 ++ (wX4 hT_8 aT_8 yT_8 gT_8))) sz) (wX11 hT aT yT gT ++ (wX9 (aT 3) aT_3 yT_3 gT_3 ++ (wX4 hT_8 aT_8 yT_8 gT_8))) q) 0 0 (va_A (wX11 hT aT yT gT ++ (wX9 (aT 3) aT_3 yT_3 gT_3 ++ (wX4 hT_8 aT_8 yT_8 gT_8))) sz) := by
  refine Met.ofW (cc := cX11_thing) (maxL := 4) (ret := (some .int)) (by decide) rfl ?_
  intro p e s m args below meth c s₁ B hml hv
  obtain ⟨rfl, hsz, hP, hK, hD, hN⟩ := hv
  subst hsz
  have C : Cx p s m _ meth c cX11_thing (some .int) 4 RX11 lw_all := Cx_of B hml
  have X := Hx_start hP hK hD hN
  obtain ⟨hx, hb, hr, -, hown, hts, hlk⟩ := id C
  generalize va_A (wX11 hT aT yT gT ++ (wX9 (aT 3) aT_3 yT_3 gT_3 ++ (wX4 hT_8 aT_8 yT_8 gT_8))) s.heap.size = A at X ⊢
  have hl := lv_entry ([.ref hT, .int x0, .int x1]) (n := 4) (Nat.le_of_ble_eq_true rfl)
  rw [lg_entry_eq]
  generalize (lg_sl ([.ref hT, .int x0, .int x1]) ++ List.replicate (4 - (lg_sl ([.ref hT, .int x0, .int x1])).length) Slot.unset).toArray = ls at hl ⊢
  have hl : lv_has ls 4 [(0, .ref hT), (1, .int x0), (2, .int x1)] := hl
  unfold f_X11_thing at hF
  refine lv_iload_n hx hb dX11_thing_0 rfl (lv_at hl 1 rfl) ?_
  refine lv_if_lt (tgt := 79) hx hb dX11_thing_1 (by decide) (fun c => ?_) (fun c => ?_)
  · replace hF := iT c hF
    exact (k_X11_thing_79 l D hT aT yT aT_3 yT_3 hT_8 aT_8 yT_8) C X (lv_sub hl [0, 1, 2] rfl) hF
  · replace hF := iF c hF
    refine lv_iload_n hx hb dX11_thing_4 rfl (lv_at hl 1 rfl) ?_
    refine lv_aload_n hx hb dX11_thing_5 rfl (lv_at hl 0 rfl) ?_
    obtain ⟨h_6, hF⟩ := grd_some hF
    refine va_get (D := D.1) (ci := 11) (v := .ref hT_8) (C := RX11) (T := TX11) (N := 14) hx hb hts wi_X11 hown X.1 X.2.1 0 rfl rfl 8 (by decide) (hts _ q2_155) (fun _ h9 => h9) ((fl_get (by decide)).trans (rf_eq h_6)) dX11_thing_6 ?_
    refine va_getN (D := D.1) (ci := 4) (v := .int (gI gT_8 4)) (C := RX4) (T := TX4) (N := 14) hx hb hts wi_X4 hown X.1 X.2.1 14 rfl rfl 4 (by decide) (X.2.2.2.2.2.1.use q2_82 rfl) (fun _ h9 => h9) (fl_get (by decide)) dX11_thing_9 ?_
    refine lv_icmp_ge (tgt := 79) hx hb dX11_thing_12 (by decide) (fun c => ?_) (fun c => ?_)
    · replace hF := iT c hF
      exact (k_X11_thing_79 l D hT aT yT aT_3 yT_3 hT_8 aT_8 yT_8) C X (lv_sub hl [0, 1, 2] rfl) hF
    · replace hF := iF c hF
      refine lv_iload_n hx hb dX11_thing_15 rfl (lv_at hl 2 rfl) ?_
      by_cases c0 : x1 = (0 : Int32)
      · replace hF := iT c0 hF
        refine lv_lookup (tgt := 44) (off := 28) hx hb dX11_thing_16 (by decide) (by rw [c0]; rfl) (by decide) ?_
        refine lv_aload_n hx hb dX11_thing_44 rfl (lv_at hl 0 rfl) ?_
        obtain ⟨h_7, hF⟩ := grd_some hF
        refine va_get (D := D.1) (ci := 11) (v := .ref hT_8) (C := RX11) (T := TX11) (N := 14) hx hb hts wi_X11 hown X.1 X.2.1 0 rfl rfl 8 (by decide) (hts _ q2_155) (fun _ h9 => h9) ((fl_get (by decide)).trans (rf_eq h_7)) dX11_thing_45 ?_
        refine va_getN (D := D.1) (ci := 4) (v := .ref (aT_8 7)) (C := RX4) (T := TX4) (N := 14) hx hb hts wi_X4 hown X.1 X.2.1 14 rfl rfl 7 (by decide) (X.2.2.2.2.2.1.use q2_97 rfl) (fun _ h9 => h9) (fl_get (by decide)) dX11_thing_48 ?_
        refine lv_iload_n hx hb dX11_thing_51 rfl (lv_at hl 1 rfl) ?_
        obtain ⟨h_8, hF⟩ := grd_some hF
        refine va_iald (D := D.1) (f := gIA gT_8 7) hx hb X.1 X.2.1 18 15 rfl rfl (inB_ok h_8) dX11_thing_52 ?_
        have hq := Option.some.inj hF
        subst hq
        exact rt_i C X dX11_thing_53
      · replace hF := iF c0 hF
        by_cases c1 : x1 = (1 : Int32)
        · replace hF := iT c1 hF
          refine lv_lookup (tgt := 54) (off := 38) hx hb dX11_thing_16 (by decide) (by rw [c1]; rfl) (by decide) ?_
          refine lv_aload_n hx hb dX11_thing_54 rfl (lv_at hl 0 rfl) ?_
          obtain ⟨h_9, hF⟩ := grd_some hF
          refine va_get (D := D.1) (ci := 11) (v := .ref hT_8) (C := RX11) (T := TX11) (N := 14) hx hb hts wi_X11 hown X.1 X.2.1 0 rfl rfl 8 (by decide) (hts _ q2_155) (fun _ h9 => h9) ((fl_get (by decide)).trans (rf_eq h_9)) dX11_thing_55 ?_
          refine va_getN (D := D.1) (ci := 4) (v := .ref (aT_8 8)) (C := RX4) (T := TX4) (N := 14) hx hb hts wi_X4 hown X.1 X.2.1 14 rfl rfl 8 (by decide) (X.2.2.2.2.2.1.use q2_100 rfl) (fun _ h9 => h9) (fl_get (by decide)) dX11_thing_58 ?_
          refine lv_iload_n hx hb dX11_thing_61 rfl (lv_at hl 1 rfl) ?_
          obtain ⟨h_10, hF⟩ := grd_some hF
          refine va_zald (D := D.1) (f := gIA gT_8 8) hx hb X.1 X.2.1 19 16 rfl rfl (inB_ok h_10) dX11_thing_62 ?_
          refine lv_if_eq (tgt := 70) hx hb dX11_thing_63 (by decide) (fun c => ?_) (fun c => ?_)
          · replace hF := iT c hF
            refine lv_iconst (v := (0 : Int32)) hx hb dX11_thing_70 (by decide) ?_
            have hq := Option.some.inj hF
            subst hq
            exact rt_i C X dX11_thing_71
          · replace hF := iF c hF
            refine lv_iconst (v := (1 : Int32)) hx hb dX11_thing_66 (by decide) ?_
            refine lv_goto (tgt := 71) hx hb dX11_thing_67 (by decide) ?_
            have hq := Option.some.inj hF
            subst hq
            exact rt_i C X dX11_thing_71
        · replace hF := iF c1 hF
          refine lv_lookup (tgt := 72) (off := 56) hx hb dX11_thing_16 (by decide) (lkc (tneS c0 (by decide)) (lkc (tneS c1 (by decide)) lkn)) (by decide) ?_
          refine lv_aload_n hx hb dX11_thing_72 rfl (lv_at hl 0 rfl) ?_
          refine lv_iload_n hx hb dX11_thing_73 rfl (lv_at hl 1 rfl) ?_
          refine lv_iload_n hx hb dX11_thing_74 rfl (lv_at hl 2 rfl) ?_
          obtain ⟨q_11, hc_12, hF⟩ := bnd_some hF
          refine cV_i (As := [.int x0, .int x1]) (rest := []) C X (c_X11_toldOfRow l D hT aT yT aT_3 yT_3 hT_8 aT_8 yT_8 gT gT_3 gT_8 x0 x1 q_11 hc_12 _) (cwV 2 hts (good_V q5_161 q5_163 q0_58 q1_1 q5_164) rfl rfl rfl (by decide +kernel) ⟨Nat.le_of_ble_eq_true rfl, Nat.le_of_ble_eq_true rfl⟩) (va_recv X.1 X.2.1 (ci := 11) (q0 := 0) rfl rfl) X.1 X.2.1 X.2.2.1 (free_all X) hl.1 rfl rfl (Nat.le_of_ble_eq_true rfl) dX11_thing_75 ⟨Nat.le_of_ble_eq_true rfl, Nat.le_of_ble_eq_true rfl⟩ (fun t H1 locs1 ht hB hk hS => ?_)
          have X : Hx D (tX11 yT ++ (tX9 yT_3 ++ (tX4 yT_8))) A s H1 locs1 (wX11 hT aT yT gT ++ (wX9 (aT 3) aT_3 yT_3 gT_3 ++ (wX4 hT_8 aT_8 yT_8 gT_8))) := Hx_after_all X ht hB hS
          clear hk hS ht hB
          generalize H1 = H at X ⊢
          generalize locs1 = locs at X ⊢
          have hq := Option.some.inj hF
          subst hq
          exact rt_i C X dX11_thing_78

/-! ### X11_letter -/
theorem dX11_letter_0 : decode cX11_letter 0 = .ok (.iconst (-1), 1) := by decide +kernel
theorem dX11_letter_1 : decode cX11_letter 1 = .ok (.istore_n 3, 1) := by decide +kernel
theorem dX11_letter_2 : decode cX11_letter 2 = .ok (.iload_n 1, 1) := by decide +kernel
theorem dX11_letter_3 : decode cX11_letter 3 = .ok (.ifCond .lt 19, 3) := by decide +kernel
theorem dX11_letter_6 : decode cX11_letter 6 = .ok (.iload_n 1, 1) := by decide +kernel
theorem dX11_letter_7 : decode cX11_letter 7 = .ok (.aload_n 0, 1) := by decide +kernel
theorem dX11_letter_8 : decode cX11_letter 8 = .ok (.getfield 63, 3) := by decide +kernel
theorem dX11_letter_11 : decode cX11_letter 11 = .ok (.getfield 116, 3) := by decide +kernel
theorem dX11_letter_14 : decode cX11_letter 14 = .ok (.if_icmp .ge 8, 3) := by decide +kernel
theorem dX11_letter_17 : decode cX11_letter 17 = .ok (.iload_n 1, 1) := by decide +kernel
theorem dX11_letter_18 : decode cX11_letter 18 = .ok (.istore_n 3, 1) := by decide +kernel
theorem dX11_letter_19 : decode cX11_letter 19 = .ok (.goto 55, 3) := by decide +kernel
theorem dX11_letter_22 : decode cX11_letter 22 = .ok (.aload_n 0, 1) := by decide +kernel
theorem dX11_letter_23 : decode cX11_letter 23 = .ok (.iload_n 1, 1) := by decide +kernel
theorem dX11_letter_24 : decode cX11_letter 24 = .ok (.invokevirtual 157, 3) := by decide +kernel
theorem dX11_letter_27 : decode cX11_letter 27 = .ok (.iconst (-1), 1) := by decide +kernel
theorem dX11_letter_28 : decode cX11_letter 28 = .ok (.if_icmp .eq 15, 3) := by decide +kernel
theorem dX11_letter_31 : decode cX11_letter 31 = .ok (.bipush 40, 2) := by decide +kernel
theorem dX11_letter_33 : decode cX11_letter 33 = .ok (.aload_n 0, 1) := by decide +kernel
theorem dX11_letter_34 : decode cX11_letter 34 = .ok (.iload_n 1, 1) := by decide +kernel
theorem dX11_letter_35 : decode cX11_letter 35 = .ok (.invokevirtual 157, 3) := by decide +kernel
theorem dX11_letter_38 : decode cX11_letter 38 = .ok (.iadd, 1) := by decide +kernel
theorem dX11_letter_39 : decode cX11_letter 39 = .ok (.istore_n 3, 1) := by decide +kernel
theorem dX11_letter_40 : decode cX11_letter 40 = .ok (.goto 34, 3) := by decide +kernel
theorem dX11_letter_43 : decode cX11_letter 43 = .ok (.iload_n 1, 1) := by decide +kernel
theorem dX11_letter_44 : decode cX11_letter 44 = .ok (.sipush 200, 3) := by decide +kernel
theorem dX11_letter_47 : decode cX11_letter 47 = .ok (.if_icmp .lt 27, 3) := by decide +kernel
theorem dX11_letter_50 : decode cX11_letter 50 = .ok (.iload_n 1, 1) := by decide +kernel
theorem dX11_letter_51 : decode cX11_letter 51 = .ok (.sipush 200, 3) := by decide +kernel
theorem dX11_letter_54 : decode cX11_letter 54 = .ok (.aload_n 0, 1) := by decide +kernel
theorem dX11_letter_55 : decode cX11_letter 55 = .ok (.getfield 63, 3) := by decide +kernel
theorem dX11_letter_58 : decode cX11_letter 58 = .ok (.getfield 125, 3) := by decide +kernel
theorem dX11_letter_61 : decode cX11_letter 61 = .ok (.iadd, 1) := by decide +kernel
theorem dX11_letter_62 : decode cX11_letter 62 = .ok (.if_icmp .ge 12, 3) := by decide +kernel
theorem dX11_letter_65 : decode cX11_letter 65 = .ok (.bipush 52, 2) := by decide +kernel
theorem dX11_letter_67 : decode cX11_letter 67 = .ok (.iload_n 1, 1) := by decide +kernel
theorem dX11_letter_68 : decode cX11_letter 68 = .ok (.sipush 200, 3) := by decide +kernel
theorem dX11_letter_71 : decode cX11_letter 71 = .ok (.isub, 1) := by decide +kernel
theorem dX11_letter_72 : decode cX11_letter 72 = .ok (.iadd, 1) := by decide +kernel
theorem dX11_letter_73 : decode cX11_letter 73 = .ok (.istore_n 3, 1) := by decide +kernel
theorem dX11_letter_74 : decode cX11_letter 74 = .ok (.iload_n 3, 1) := by decide +kernel
theorem dX11_letter_75 : decode cX11_letter 75 = .ok (.iconst (-1), 1) := by decide +kernel
theorem dX11_letter_76 : decode cX11_letter 76 = .ok (.if_icmp .eq 20, 3) := by decide +kernel
theorem dX11_letter_79 : decode cX11_letter 79 = .ok (.iload_n 2, 1) := by decide +kernel
theorem dX11_letter_80 : decode cX11_letter 80 = .ok (.ifCond .lt 16, 3) := by decide +kernel
theorem dX11_letter_83 : decode cX11_letter 83 = .ok (.iload_n 2, 1) := by decide +kernel
theorem dX11_letter_84 : decode cX11_letter 84 = .ok (.aload_n 0, 1) := by decide +kernel
theorem dX11_letter_85 : decode cX11_letter 85 = .ok (.getfield 63, 3) := by decide +kernel
theorem dX11_letter_88 : decode cX11_letter 88 = .ok (.getfield 164, 3) := by decide +kernel
theorem dX11_letter_91 : decode cX11_letter 91 = .ok (.iload_n 3, 1) := by decide +kernel
theorem dX11_letter_92 : decode cX11_letter 92 = .ok (.iaload, 1) := by decide +kernel
theorem dX11_letter_93 : decode cX11_letter 93 = .ok (.if_icmp .lt 5, 3) := by decide +kernel
theorem dX11_letter_96 : decode cX11_letter 96 = .ok (.iconst (-1), 1) := by decide +kernel
theorem dX11_letter_97 : decode cX11_letter 97 = .ok (.ireturn, 1) := by decide +kernel
theorem dX11_letter_98 : decode cX11_letter 98 = .ok (.aload_n 0, 1) := by decide +kernel
theorem dX11_letter_99 : decode cX11_letter 99 = .ok (.getfield 63, 3) := by decide +kernel
theorem dX11_letter_102 : decode cX11_letter 102 = .ok (.getfield 176, 3) := by decide +kernel
theorem dX11_letter_105 : decode cX11_letter 105 = .ok (.iload_n 3, 1) := by decide +kernel
theorem dX11_letter_106 : decode cX11_letter 106 = .ok (.bipush 10, 2) := by decide +kernel
theorem dX11_letter_108 : decode cX11_letter 108 = .ok (.imul, 1) := by decide +kernel
theorem dX11_letter_109 : decode cX11_letter 109 = .ok (.iload_n 2, 1) := by decide +kernel
theorem dX11_letter_110 : decode cX11_letter 110 = .ok (.iadd, 1) := by decide +kernel
theorem dX11_letter_111 : decode cX11_letter 111 = .ok (.baload, 1) := by decide +kernel
theorem dX11_letter_112 : decode cX11_letter 112 = .ok (.ireturn, 1) := by decide +kernel
abbrev R_X11_letter : Room := ({ frames := 1, cells := 0, slots := 0, locals := 21 } : Room)
def b_X11_letter_74 (hT_8 : Nat) (gT : Gs) (gT_8 : Gs) (v2 : Int32) (v3 : Int32) : Option (Int32) :=
  if v3 = (-1 : Int32) then (some (-1 : Int32)) else (if v2 < 0 then (some (-1 : Int32)) else (grd (rEq (gR gT 8) hT_8) (grd (inB v3 60) (if v2 < (gIA gT_8 2 v3.toNatClampNeg) then (grd (rEq (gR gT 8) hT_8) (grd (inB ((v3 * (10 : Int32)) + v2) 600) (some (gIA gT_8 1 ((v3 * (10 : Int32)) + v2).toNatClampNeg)))) else (some (-1 : Int32))))))
def b_X11_letter_22 (hT_8 : Nat) (gT : Gs) (gT_8 : Gs) (v1 : Int32) (v2 : Int32) (v3 : Int32) : Option (Int32) :=
  bnd (f_X11_bellOf hT_8 gT gT_8 v1) (fun q_1 => if q_1 = (-1 : Int32) then (if v1 < (200 : Int32) then (b_X11_letter_74 hT_8 gT gT_8 v2 v3) else (grd (rEq (gR gT 8) hT_8) (if ((200 : Int32) + (gI gT_8 6)) ≤ v1 then (b_X11_letter_74 hT_8 gT gT_8 v2 v3) else (b_X11_letter_74 hT_8 gT gT_8 v2 ((52 : Int32) + (v1 - (200 : Int32))))))) else (bnd (f_X11_bellOf hT_8 gT gT_8 v1) (fun q_8 => b_X11_letter_74 hT_8 gT gT_8 v2 ((40 : Int32) + q_8))))
def f_X11_letter (hT_8 : Nat) (gT : Gs) (gT_8 : Gs) (x0 : Int32) (x1 : Int32) : Option (Int32) :=
  if x0 < 0 then (b_X11_letter_22 hT_8 gT gT_8 x0 x1 (-1 : Int32)) else (grd (rEq (gR gT 8) hT_8) (if (gI gT_8 4) ≤ x0 then (b_X11_letter_22 hT_8 gT gT_8 x0 x1 (-1 : Int32)) else (b_X11_letter_74 hT_8 gT gT_8 x1 x0)))
def S_X11_letter_74 (l : Launch) (D : Dx) (hT : Nat) (aT : Nat → Nat) (yT : Nat → ClassId) (hT_8 : Nat) (aT_8 : Nat → Nat) (yT_8 : Nat → ClassId) (fn : Gs → Gs → Int32 → Int32 → Option (Int32)) : Prop :=
  ∀ {p : Program} {e : Env} {s : State} {m : MethodId} {args : Array Value} {below : List Frame} {meth : Method} {c : Code} {H : Heap} {locs : List Loc} {A : Nat → Prop} {ls : Array Slot} {gT : Gs} {gT_8 : Gs} {v2 : Int32} {v3 : Int32} {q : Int32}, Cx p s m args meth c cX11_letter (some .int) 4 RX11 lw_all → Hx D (tX11 yT ++ (tX4 yT_8)) A s H locs (wX11 hT aT yT gT ++ (wX4 hT_8 aT_8 yT_8 gT_8)) → lv_has ls 4 [(0, .ref hT), (2, .int v2), (3, .int v3)] → fn gT gT_8 v2 v3 = some q → W p l e R_X11_letter s m args below meth c H locs 0 0 (MQ below (QI D A (wX11 hT aT yT gT ++ (wX4 hT_8 aT_8 yT_8 gT_8)) q) args s 0 0 A) (F0 m 74 ls [])
def S_X11_letter_22 (l : Launch) (D : Dx) (hT : Nat) (aT : Nat → Nat) (yT : Nat → ClassId) (hT_8 : Nat) (aT_8 : Nat → Nat) (yT_8 : Nat → ClassId) (fn : Gs → Gs → Int32 → Int32 → Int32 → Option (Int32)) : Prop :=
  ∀ {p : Program} {e : Env} {s : State} {m : MethodId} {args : Array Value} {below : List Frame} {meth : Method} {c : Code} {H : Heap} {locs : List Loc} {A : Nat → Prop} {ls : Array Slot} {gT : Gs} {gT_8 : Gs} {v1 : Int32} {v2 : Int32} {v3 : Int32} {q : Int32}, Cx p s m args meth c cX11_letter (some .int) 4 RX11 lw_all → Hx D (tX11 yT ++ (tX4 yT_8)) A s H locs (wX11 hT aT yT gT ++ (wX4 hT_8 aT_8 yT_8 gT_8)) → lv_has ls 4 [(0, .ref hT), (1, .int v1), (2, .int v2), (3, .int v3)] → fn gT gT_8 v1 v2 v3 = some q → W p l e R_X11_letter s m args below meth c H locs 0 0 (MQ below (QI D A (wX11 hT aT yT gT ++ (wX4 hT_8 aT_8 yT_8 gT_8)) q) args s 0 0 A) (F0 m 22 ls [])
set_option maxHeartbeats 4000000 in
set_option maxRecDepth 100000 in
theorem k_X11_letter_74 (l : Launch) (D : Dx) (hT : Nat) (aT : Nat → Nat) (yT : Nat → ClassId) (hT_8 : Nat) (aT_8 : Nat → Nat) (yT_8 : Nat → ClassId) : S_X11_letter_74 l D hT aT yT hT_8 aT_8 yT_8 (b_X11_letter_74 hT_8) := by
  intro p e s m args below meth c H locs A ls gT gT_8 v2 v3 q C X hl hF
  obtain ⟨hx, hb, hr, hml, hown, hts, hlk⟩ := id C
  unfold b_X11_letter_74 at hF
  refine lv_iload_n hx hb dX11_letter_74 rfl (lv_at hl 2 rfl) ?_
  refine lv_iconst (v := (-1 : Int32)) hx hb dX11_letter_75 (by decide) ?_
  refine lv_icmp_eq (tgt := 96) hx hb dX11_letter_76 (by decide) (fun c => ?_) (fun c => ?_)
  · replace hF := iT c hF
    refine lv_iconst (v := (-1 : Int32)) hx hb dX11_letter_96 (by decide) ?_
    have hq := Option.some.inj hF
    subst hq
    exact rt_i C X dX11_letter_97
  · replace hF := iF c hF
    refine lv_iload_n hx hb dX11_letter_79 rfl (lv_at hl 1 rfl) ?_
    refine lv_if_lt (tgt := 96) hx hb dX11_letter_80 (by decide) (fun c => ?_) (fun c => ?_)
    · replace hF := iT c hF
      refine lv_iconst (v := (-1 : Int32)) hx hb dX11_letter_96 (by decide) ?_
      have hq := Option.some.inj hF
      subst hq
      exact rt_i C X dX11_letter_97
    · replace hF := iF c hF
      refine lv_iload_n hx hb dX11_letter_83 rfl (lv_at hl 1 rfl) ?_
      refine lv_aload_n hx hb dX11_letter_84 rfl (lv_at hl 0 rfl) ?_
      obtain ⟨h_3, hF⟩ := grd_some hF
      refine va_get (D := D.1) (ci := 11) (v := .ref hT_8) (C := RX11) (T := TX11) (N := 14) hx hb hts wi_X11 hown X.1 X.2.1 0 rfl rfl 8 (by decide) (hts _ q2_155) (fun _ h9 => h9) ((fl_get (by decide)).trans (rf_eq h_3)) dX11_letter_85 ?_
      refine va_getN (D := D.1) (ci := 4) (v := .ref (aT_8 2)) (C := RX4) (T := TX4) (N := 14) hx hb hts wi_X4 hown X.1 X.2.1 1 rfl rfl 2 (by decide) (X.2.2.2.2.2.1.use q2_76 rfl) (fun _ h9 => h9) (fl_get (by decide)) dX11_letter_88 ?_
      refine lv_iload_n hx hb dX11_letter_91 rfl (lv_at hl 2 rfl) ?_
      obtain ⟨h_4, hF⟩ := grd_some hF
      refine va_iald (D := D.1) (f := gIA gT_8 2) hx hb X.1 X.2.1 3 1 rfl rfl (inB_ok h_4) dX11_letter_92 ?_
      refine lv_icmp_lt (tgt := 98) hx hb dX11_letter_93 (by decide) (fun c => ?_) (fun c => ?_)
      · replace hF := iT c hF
        refine lv_aload_n hx hb dX11_letter_98 rfl (lv_at hl 0 rfl) ?_
        obtain ⟨h_5, hF⟩ := grd_some hF
        refine va_get (D := D.1) (ci := 11) (v := .ref hT_8) (C := RX11) (T := TX11) (N := 14) hx hb hts wi_X11 hown X.1 X.2.1 0 rfl rfl 8 (by decide) (hts _ q2_155) (fun _ h9 => h9) ((fl_get (by decide)).trans (rf_eq h_5)) dX11_letter_99 ?_
        refine va_getN (D := D.1) (ci := 4) (v := .ref (aT_8 1)) (C := RX4) (T := TX4) (N := 14) hx hb hts wi_X4 hown X.1 X.2.1 1 rfl rfl 1 (by decide) (X.2.2.2.2.2.1.use q2_73 rfl) (fun _ h9 => h9) (fl_get (by decide)) dX11_letter_102 ?_
        refine lv_iload_n hx hb dX11_letter_105 rfl (lv_at hl 2 rfl) ?_
        refine lv_bipush (v := (10 : Int32)) hx hb dX11_letter_106 (by decide) ?_
        refine lv_imul hx hb dX11_letter_108 ?_
        refine lv_iload_n hx hb dX11_letter_109 rfl (lv_at hl 1 rfl) ?_
        refine lv_iadd hx hb dX11_letter_110 ?_
        obtain ⟨h_6, hF⟩ := grd_some hF
        refine va_bald (D := D.1) (f := gIA gT_8 1) hx hb X.1 X.2.1 2 0 rfl rfl (inB_ok h_6) dX11_letter_111 ?_
        have hq := Option.some.inj hF
        subst hq
        exact rt_i C X dX11_letter_112
      · replace hF := iF c hF
        refine lv_iconst (v := (-1 : Int32)) hx hb dX11_letter_96 (by decide) ?_
        have hq := Option.some.inj hF
        subst hq
        exact rt_i C X dX11_letter_97
set_option maxHeartbeats 4000000 in
set_option maxRecDepth 100000 in
theorem k_X11_letter_22 (l : Launch) (D : Dx) (hT : Nat) (aT : Nat → Nat) (yT : Nat → ClassId) (hT_8 : Nat) (aT_8 : Nat → Nat) (yT_8 : Nat → ClassId) : S_X11_letter_22 l D hT aT yT hT_8 aT_8 yT_8 (b_X11_letter_22 hT_8) := by
  intro p e s m args below meth c H locs A ls gT gT_8 v1 v2 v3 q C X hl hF
  obtain ⟨hx, hb, hr, hml, hown, hts, hlk⟩ := id C
  unfold b_X11_letter_22 at hF
  refine lv_aload_n hx hb dX11_letter_22 rfl (lv_at hl 0 rfl) ?_
  refine lv_iload_n hx hb dX11_letter_23 rfl (lv_at hl 1 rfl) ?_
  obtain ⟨q_1, hc_2, hF⟩ := bnd_some hF
  refine cV_i (As := [.int v1]) (rest := []) C X (c_X11_bellOf l D hT aT yT hT_8 aT_8 yT_8 gT gT_8 v1 q_1 hc_2 _) (cwV 1 hts (good_V q5_165 q5_167 q0_59 q1_1 q5_168) rfl rfl rfl (by decide +kernel) ⟨Nat.le_of_ble_eq_true rfl, Nat.le_of_ble_eq_true rfl⟩) (va_recv X.1 X.2.1 (ci := 11) (q0 := 0) rfl rfl) X.1 X.2.1 X.2.2.1 (free_all X) hl.1 rfl rfl (Nat.le_of_ble_eq_true rfl) dX11_letter_24 ⟨Nat.le_of_ble_eq_true rfl, Nat.le_of_ble_eq_true rfl⟩ (fun t H1 locs1 ht hB hk hS => ?_)
  have X : Hx D (tX11 yT ++ (tX4 yT_8)) A s H1 locs1 (wX11 hT aT yT gT ++ (wX4 hT_8 aT_8 yT_8 gT_8)) := Hx_after_all X ht hB hS
  clear hk hS ht hB
  generalize H1 = H at X ⊢
  generalize locs1 = locs at X ⊢
  refine lv_iconst (v := (-1 : Int32)) hx hb dX11_letter_27 (by decide) ?_
  refine lv_icmp_eq (tgt := 43) hx hb dX11_letter_28 (by decide) (fun c => ?_) (fun c => ?_)
  · replace hF := iT c hF
    refine lv_iload_n hx hb dX11_letter_43 rfl (lv_at hl 1 rfl) ?_
    refine lv_sipush (v := (200 : Int32)) hx hb dX11_letter_44 (by decide) ?_
    refine lv_icmp_lt (tgt := 74) hx hb dX11_letter_47 (by decide) (fun c => ?_) (fun c => ?_)
    · replace hF := iT c hF
      exact (k_X11_letter_74 l D hT aT yT hT_8 aT_8 yT_8) C X (lv_sub hl [0, 2, 3] rfl) hF
    · replace hF := iF c hF
      refine lv_iload_n hx hb dX11_letter_50 rfl (lv_at hl 1 rfl) ?_
      refine lv_sipush (v := (200 : Int32)) hx hb dX11_letter_51 (by decide) ?_
      refine lv_aload_n hx hb dX11_letter_54 rfl (lv_at hl 0 rfl) ?_
      obtain ⟨h_7, hF⟩ := grd_some hF
      refine va_get (D := D.1) (ci := 11) (v := .ref hT_8) (C := RX11) (T := TX11) (N := 14) hx hb hts wi_X11 hown X.1 X.2.1 0 rfl rfl 8 (by decide) (hts _ q2_155) (fun _ h9 => h9) ((fl_get (by decide)).trans (rf_eq h_7)) dX11_letter_55 ?_
      refine va_getN (D := D.1) (ci := 4) (v := .int (gI gT_8 6)) (C := RX4) (T := TX4) (N := 14) hx hb hts wi_X4 hown X.1 X.2.1 1 rfl rfl 6 (by decide) (X.2.2.2.2.2.1.use q2_91 rfl) (fun _ h9 => h9) (fl_get (by decide)) dX11_letter_58 ?_
      refine lv_iadd hx hb dX11_letter_61 ?_
      refine lv_icmp_ge (tgt := 74) hx hb dX11_letter_62 (by decide) (fun c => ?_) (fun c => ?_)
      · replace hF := iT c hF
        exact (k_X11_letter_74 l D hT aT yT hT_8 aT_8 yT_8) C X (lv_sub hl [0, 2, 3] rfl) hF
      · replace hF := iF c hF
        refine lv_bipush (v := (52 : Int32)) hx hb dX11_letter_65 (by decide) ?_
        refine lv_iload_n hx hb dX11_letter_67 rfl (lv_at hl 1 rfl) ?_
        refine lv_sipush (v := (200 : Int32)) hx hb dX11_letter_68 (by decide) ?_
        refine lv_isub hx hb dX11_letter_71 ?_
        refine lv_iadd hx hb dX11_letter_72 ?_
        refine lv_istore_n (lv' := [(3, .int ((52 : Int32) + (v1 - (200 : Int32)))), (0, .ref hT), (1, .int v1), (2, .int v2)]) hx hb dX11_letter_73 rfl hl (by decide) rfl (fun ls hl => ?_)
        exact (k_X11_letter_74 l D hT aT yT hT_8 aT_8 yT_8) C X (lv_sub hl [1, 3, 0] rfl) hF
  · replace hF := iF c hF
    refine lv_bipush (v := (40 : Int32)) hx hb dX11_letter_31 (by decide) ?_
    refine lv_aload_n hx hb dX11_letter_33 rfl (lv_at hl 0 rfl) ?_
    refine lv_iload_n hx hb dX11_letter_34 rfl (lv_at hl 1 rfl) ?_
    obtain ⟨q_8, hc_9, hF⟩ := bnd_some hF
    refine cV_i (As := [.int v1]) (rest := [.int (40 : Int32)]) C X (c_X11_bellOf l D hT aT yT hT_8 aT_8 yT_8 gT gT_8 v1 q_8 hc_9 _) (cwV 1 hts (good_V q5_165 q5_167 q0_59 q1_1 q5_168) rfl rfl rfl (by decide +kernel) ⟨Nat.le_of_ble_eq_true rfl, Nat.le_of_ble_eq_true rfl⟩) (va_recv X.1 X.2.1 (ci := 11) (q0 := 0) rfl rfl) X.1 X.2.1 X.2.2.1 (free_all X) hl.1 rfl rfl (Nat.le_of_ble_eq_true rfl) dX11_letter_35 ⟨Nat.le_of_ble_eq_true rfl, Nat.le_of_ble_eq_true rfl⟩ (fun t H1 locs1 ht hB hk hS => ?_)
    have X : Hx D (tX11 yT ++ (tX4 yT_8)) A s H1 locs1 (wX11 hT aT yT gT ++ (wX4 hT_8 aT_8 yT_8 gT_8)) := Hx_after_all X ht hB hS
    clear hk hS ht hB
    generalize H1 = H at X ⊢
    generalize locs1 = locs at X ⊢
    refine lv_iadd hx hb dX11_letter_38 ?_
    refine lv_istore_n (lv' := [(3, .int ((40 : Int32) + q_8)), (0, .ref hT), (1, .int v1), (2, .int v2)]) hx hb dX11_letter_39 rfl hl (by decide) rfl (fun ls hl => ?_)
    refine lv_goto (tgt := 74) hx hb dX11_letter_40 (by decide) ?_
    exact (k_X11_letter_74 l D hT aT yT hT_8 aT_8 yT_8) C X (lv_sub hl [1, 3, 0] rfl) hF
set_option maxHeartbeats 4000000 in
set_option maxRecDepth 100000 in
theorem c_X11_letter (l : Launch) (D : Dx) (hT : Nat) (aT : Nat → Nat) (yT : Nat → ClassId) (hT_8 : Nat) (aT_8 : Nat → Nat) (yT_8 : Nat → ClassId) (gT : Gs) (gT_8 : Gs) (x0 : Int32) (x1 : Int32) (q : Int32) (hF : f_X11_letter hT_8 gT gT_8 x0 x1 = some q) (sz : Nat) : Met l yX11_letter (ws_ yX11_letter cX11_letter 4 (some .int)) R_X11_letter (PC D (tX11 yT ++ (tX4 yT_8)) [.ref hT, .int x0, .int x1] (wX11 hT aT yT gT ++ (wX4 hT_8 aT_8 yT_8 gT_8)) sz) (QI D (va_A (wX11 hT aT yT gT ++ (wX4 hT_8 aT_8 yT_8 gT_8)) sz) (wX11 hT aT yT gT ++ (wX4 hT_8 aT_8 yT_8 gT_8)) q) 0 0 (va_A (wX11 hT aT yT gT ++ (wX4 hT_8 aT_8 yT_8 gT_8)) sz) := by
  refine Met.ofW (cc := cX11_letter) (maxL := 4) (ret := (some .int)) (by decide) rfl ?_
  intro p e s m args below meth c s₁ B hml hv
  obtain ⟨rfl, hsz, hP, hK, hD, hN⟩ := hv
  subst hsz
  have C : Cx p s m _ meth c cX11_letter (some .int) 4 RX11 lw_all := Cx_of B hml
  have X := Hx_start hP hK hD hN
  obtain ⟨hx, hb, hr, -, hown, hts, hlk⟩ := id C
  generalize va_A (wX11 hT aT yT gT ++ (wX4 hT_8 aT_8 yT_8 gT_8)) s.heap.size = A at X ⊢
  have hl := lv_entry ([.ref hT, .int x0, .int x1]) (n := 4) (Nat.le_of_ble_eq_true rfl)
  rw [lg_entry_eq]
  generalize (lg_sl ([.ref hT, .int x0, .int x1]) ++ List.replicate (4 - (lg_sl ([.ref hT, .int x0, .int x1])).length) Slot.unset).toArray = ls at hl ⊢
  have hl : lv_has ls 4 [(0, .ref hT), (1, .int x0), (2, .int x1)] := hl
  unfold f_X11_letter at hF
  refine lv_iconst (v := (-1 : Int32)) hx hb dX11_letter_0 (by decide) ?_
  refine lv_istore_n (lv' := [(3, .int (-1 : Int32)), (0, .ref hT), (1, .int x0), (2, .int x1)]) hx hb dX11_letter_1 rfl hl (by decide) rfl (fun ls hl => ?_)
  refine lv_iload_n hx hb dX11_letter_2 rfl (lv_at hl 2 rfl) ?_
  refine lv_if_lt (tgt := 22) hx hb dX11_letter_3 (by decide) (fun c => ?_) (fun c => ?_)
  · replace hF := iT c hF
    exact (k_X11_letter_22 l D hT aT yT hT_8 aT_8 yT_8) C X (lv_sub hl [1, 2, 3, 0] rfl) hF
  · replace hF := iF c hF
    refine lv_iload_n hx hb dX11_letter_6 rfl (lv_at hl 2 rfl) ?_
    refine lv_aload_n hx hb dX11_letter_7 rfl (lv_at hl 1 rfl) ?_
    obtain ⟨h_10, hF⟩ := grd_some hF
    refine va_get (D := D.1) (ci := 11) (v := .ref hT_8) (C := RX11) (T := TX11) (N := 14) hx hb hts wi_X11 hown X.1 X.2.1 0 rfl rfl 8 (by decide) (hts _ q2_155) (fun _ h9 => h9) ((fl_get (by decide)).trans (rf_eq h_10)) dX11_letter_8 ?_
    refine va_getN (D := D.1) (ci := 4) (v := .int (gI gT_8 4)) (C := RX4) (T := TX4) (N := 14) hx hb hts wi_X4 hown X.1 X.2.1 1 rfl rfl 4 (by decide) (X.2.2.2.2.2.1.use q2_82 rfl) (fun _ h9 => h9) (fl_get (by decide)) dX11_letter_11 ?_
    refine lv_icmp_ge (tgt := 22) hx hb dX11_letter_14 (by decide) (fun c => ?_) (fun c => ?_)
    · replace hF := iT c hF
      exact (k_X11_letter_22 l D hT aT yT hT_8 aT_8 yT_8) C X (lv_sub hl [1, 2, 3, 0] rfl) hF
    · replace hF := iF c hF
      refine lv_iload_n hx hb dX11_letter_17 rfl (lv_at hl 2 rfl) ?_
      refine lv_istore_n (lv' := [(3, .int x0), (0, .ref hT), (1, .int x0), (2, .int x1)]) hx hb dX11_letter_18 rfl hl (by decide) rfl (fun ls hl => ?_)
      refine lv_goto (tgt := 74) hx hb dX11_letter_19 (by decide) ?_
      exact (k_X11_letter_74 l D hT aT yT hT_8 aT_8 yT_8) C X (lv_sub hl [1, 3, 0] rfl) hF

/-! ### X11_value -/
theorem dX11_value_0 : decode cX11_value 0 = .ok (.iload_n 1, 1) := by decide +kernel
theorem dX11_value_1 : decode cX11_value 1 = .ok (.ifCond .lt 37, 3) := by decide +kernel
theorem dX11_value_4 : decode cX11_value 4 = .ok (.iload_n 1, 1) := by decide +kernel
theorem dX11_value_5 : decode cX11_value 5 = .ok (.aload_n 0, 1) := by decide +kernel
theorem dX11_value_6 : decode cX11_value 6 = .ok (.getfield 63, 3) := by decide +kernel
theorem dX11_value_9 : decode cX11_value 9 = .ok (.getfield 116, 3) := by decide +kernel
theorem dX11_value_12 : decode cX11_value 12 = .ok (.if_icmp .ge 26, 3) := by decide +kernel
theorem dX11_value_15 : decode cX11_value 15 = .ok (.iload_n 2, 1) := by decide +kernel
theorem dX11_value_16 : decode cX11_value 16 = .ok (.ifCond .lt 22, 3) := by decide +kernel
theorem dX11_value_19 : decode cX11_value 19 = .ok (.iload_n 2, 1) := by decide +kernel
theorem dX11_value_20 : decode cX11_value 20 = .ok (.bipush 31, 2) := by decide +kernel
theorem dX11_value_22 : decode cX11_value 22 = .ok (.if_icmp .gt 16, 3) := by decide +kernel
theorem dX11_value_25 : decode cX11_value 25 = .ok (.iload_n 2, 1) := by decide +kernel
theorem dX11_value_26 : decode cX11_value 26 = .ok (.i2l, 1) := by decide +kernel
theorem dX11_value_27 : decode cX11_value 27 = .ok (.aload_n 0, 1) := by decide +kernel
theorem dX11_value_28 : decode cX11_value 28 = .ok (.getfield 27, 3) := by decide +kernel
theorem dX11_value_31 : decode cX11_value 31 = .ok (.getfield 179, 3) := by decide +kernel
theorem dX11_value_34 : decode cX11_value 34 = .ok (.lcmp, 1) := by decide +kernel
theorem dX11_value_35 : decode cX11_value 35 = .ok (.ifCond .le 5, 3) := by decide +kernel
theorem dX11_value_38 : decode cX11_value 38 = .ok (.lconst 0, 1) := by decide +kernel
theorem dX11_value_39 : decode cX11_value 39 = .ok (.lreturn, 1) := by decide +kernel
theorem dX11_value_40 : decode cX11_value 40 = .ok (.aload_n 0, 1) := by decide +kernel
theorem dX11_value_41 : decode cX11_value 41 = .ok (.getfield 63, 3) := by decide +kernel
theorem dX11_value_44 : decode cX11_value 44 = .ok (.getfield 145, 3) := by decide +kernel
theorem dX11_value_47 : decode cX11_value 47 = .ok (.iload_n 1, 1) := by decide +kernel
theorem dX11_value_48 : decode cX11_value 48 = .ok (.iaload, 1) := by decide +kernel
theorem dX11_value_49 : decode cX11_value 49 = .ok (.istore_n 3, 1) := by decide +kernel
theorem dX11_value_50 : decode cX11_value 50 = .ok (.iload_n 2, 1) := by decide +kernel
theorem dX11_value_51 : decode cX11_value 51 = .ok (.ifCond .ne 30, 3) := by decide +kernel
theorem dX11_value_54 : decode cX11_value 54 = .ok (.aload_n 0, 1) := by decide +kernel
theorem dX11_value_55 : decode cX11_value 55 = .ok (.getfield 20, 3) := by decide +kernel
theorem dX11_value_58 : decode cX11_value 58 = .ok (.iload_n 3, 1) := by decide +kernel
theorem dX11_value_59 : decode cX11_value 59 = .ok (.aload_n 0, 1) := by decide +kernel
theorem dX11_value_60 : decode cX11_value 60 = .ok (.getfield 27, 3) := by decide +kernel
theorem dX11_value_63 : decode cX11_value 63 = .ok (.getfield 182, 3) := by decide +kernel
theorem dX11_value_66 : decode cX11_value 66 = .ok (.iload_n 1, 1) := by decide +kernel
theorem dX11_value_67 : decode cX11_value 67 = .ok (.laload, 1) := by decide +kernel
theorem dX11_value_68 : decode cX11_value 68 = .ok (.aload_n 0, 1) := by decide +kernel
theorem dX11_value_69 : decode cX11_value 69 = .ok (.getfield 27, 3) := by decide +kernel
theorem dX11_value_72 : decode cX11_value 72 = .ok (.getfield 186, 3) := by decide +kernel
theorem dX11_value_75 : decode cX11_value 75 = .ok (.iload_n 1, 1) := by decide +kernel
theorem dX11_value_76 : decode cX11_value 76 = .ok (.daload, 1) := by decide +kernel
theorem dX11_value_77 : decode cX11_value 77 = .ok (.invokevirtual 190, 3) := by decide +kernel
theorem dX11_value_80 : decode cX11_value 80 = .ok (.lreturn, 1) := by decide +kernel
theorem dX11_value_81 : decode cX11_value 81 = .ok (.aload_n 0, 1) := by decide +kernel
theorem dX11_value_82 : decode cX11_value 82 = .ok (.getfield 27, 3) := by decide +kernel
theorem dX11_value_85 : decode cX11_value 85 = .ok (.iload_n 2, 1) := by decide +kernel
theorem dX11_value_86 : decode cX11_value 86 = .ok (.invokevirtual 194, 3) := by decide +kernel
theorem dX11_value_89 : decode cX11_value 89 = .ok (.iload_n 1, 1) := by decide +kernel
theorem dX11_value_90 : decode cX11_value 90 = .ok (.iadd, 1) := by decide +kernel
theorem dX11_value_91 : decode cX11_value 91 = .ok (.istore 4, 2) := by decide +kernel
theorem dX11_value_93 : decode cX11_value 93 = .ok (.aload_n 0, 1) := by decide +kernel
theorem dX11_value_94 : decode cX11_value 94 = .ok (.getfield 20, 3) := by decide +kernel
theorem dX11_value_97 : decode cX11_value 97 = .ok (.iload_n 3, 1) := by decide +kernel
theorem dX11_value_98 : decode cX11_value 98 = .ok (.aload_n 0, 1) := by decide +kernel
theorem dX11_value_99 : decode cX11_value 99 = .ok (.getfield 27, 3) := by decide +kernel
theorem dX11_value_102 : decode cX11_value 102 = .ok (.getfield 197, 3) := by decide +kernel
theorem dX11_value_105 : decode cX11_value 105 = .ok (.iload 4, 2) := by decide +kernel
theorem dX11_value_107 : decode cX11_value 107 = .ok (.laload, 1) := by decide +kernel
theorem dX11_value_108 : decode cX11_value 108 = .ok (.aload_n 0, 1) := by decide +kernel
theorem dX11_value_109 : decode cX11_value 109 = .ok (.getfield 27, 3) := by decide +kernel
theorem dX11_value_112 : decode cX11_value 112 = .ok (.getfield 200, 3) := by decide +kernel
theorem dX11_value_115 : decode cX11_value 115 = .ok (.iload 4, 2) := by decide +kernel
theorem dX11_value_117 : decode cX11_value 117 = .ok (.daload, 1) := by decide +kernel
theorem dX11_value_118 : decode cX11_value 118 = .ok (.invokevirtual 190, 3) := by decide +kernel
theorem dX11_value_121 : decode cX11_value 121 = .ok (.lreturn, 1) := by decide +kernel
abbrev R_X11_value : Room := ({ frames := 4, cells := 0, slots := 0, locals := 140 } : Room)
def f_X11_value (n : Nat) (hT_8 : Nat) (gT : Gs) (gT_2 : Gs) (gT_3 : Gs) (gT_8 : Gs) (x0 : Int32) (x1 : Int32) : Option (Int64) :=
  if x0 < 0 then (some (0 : Int64)) else (grd (rEq (gR gT 8) hT_8) (if (gI gT_8 4) ≤ x0 then (some (0 : Int64)) else (if x1 < 0 then (some (0 : Int64)) else (if (31 : Int32) < x1 then (some (0 : Int64)) else (if x1.toInt64 ≤ (gL gT_3 14) then (grd (rEq (gR gT 8) hT_8) (grd (inB x0 40) (if x1 = 0 then (grd (inB x0 40) (grd (inB x0 40) (bnd (f_X6_bitsOf n gT_2 (gIA gT_8 7 x0.toNatClampNeg) (gLA gT_3 0 x0.toNatClampNeg) (gDA gT_3 1 x0.toNatClampNeg)) (fun q_12 => some q_12)))) else (bnd (f_X9_pastRow gT_3 x1) (fun q_4 => grd (inB (q_4 + x0) 1280) (grd (inB (q_4 + x0) 1280) (bnd (f_X6_bitsOf n gT_2 (gIA gT_8 7 x0.toNatClampNeg) (gLA gT_3 4 (q_4 + x0).toNatClampNeg) (gDA gT_3 5 (q_4 + x0).toNatClampNeg)) (fun q_8 => some q_8)))))))) else (some (0 : Int64)))))))
set_option maxHeartbeats 4000000 in
set_option maxRecDepth 100000 in
theorem c_X11_value (l : Launch) (D : Dx) (hT : Nat) (aT : Nat → Nat) (yT : Nat → ClassId) (aT_2 : Nat → Nat) (yT_2 : Nat → ClassId) (aT_3 : Nat → Nat) (yT_3 : Nat → ClassId) (hT_8 : Nat) (aT_8 : Nat → Nat) (yT_8 : Nat → ClassId) (n : Nat) (gT : Gs) (gT_2 : Gs) (gT_3 : Gs) (gT_8 : Gs) (x0 : Int32) (x1 : Int32) (q : Int64) (hF : f_X11_value n hT_8 gT gT_2 gT_3 gT_8 x0 x1 = some q) (sz : Nat) : Met l yX11_value (ws_ yX11_value cX11_value 5 (some .long)) R_X11_value (PC D (tX11 yT ++ (tX6 yT_2 ++ (tX9 yT_3 ++ (tX4 yT_8)))) [.ref hT, .int x0, .int x1] (wX11 hT aT yT gT ++ (wX6 (aT 2) aT_2 yT_2 gT_2 ++ (wX9 (aT 3) aT_3 yT_3 gT_3 ++ (wX4 hT_8 aT_8 yT_8 gT_8)))) sz) (QL D (va_A (wX11 hT aT yT gT ++ (wX6 (aT 2) aT_2 yT_2 gT_2 ++ (wX9 (aT 3) aT_3 yT_3 gT_3 ++ (wX4 hT_8 aT_8 yT_8 gT_8)))) sz) (wX11 hT aT yT gT ++ (wX6 (aT 2) aT_2 yT_2 gT_2 ++ (wX9 (aT 3) aT_3 yT_3 gT_3 ++ (wX4 hT_8 aT_8 yT_8 gT_8)))) q) 0 0 (va_A (wX11 hT aT yT gT ++ (wX6 (aT 2) aT_2 yT_2 gT_2 ++ (wX9 (aT 3) aT_3 yT_3 gT_3 ++ (wX4 hT_8 aT_8 yT_8 gT_8)))) sz) := by
  refine Met.ofW (cc := cX11_value) (maxL := 5) (ret := (some .long)) (by decide) rfl ?_
  intro p e s m args below meth c s₁ B hml hv
  obtain ⟨rfl, hsz, hP, hK, hD, hN⟩ := hv
  subst hsz
  have C : Cx p s m _ meth c cX11_value (some .long) 5 RX11 lw_all := Cx_of B hml
  have X := Hx_start hP hK hD hN
  obtain ⟨hx, hb, hr, -, hown, hts, hlk⟩ := id C
  generalize va_A (wX11 hT aT yT gT ++ (wX6 (aT 2) aT_2 yT_2 gT_2 ++ (wX9 (aT 3) aT_3 yT_3 gT_3 ++ (wX4 hT_8 aT_8 yT_8 gT_8)))) s.heap.size = A at X ⊢
  have hl := lv_entry ([.ref hT, .int x0, .int x1]) (n := 5) (Nat.le_of_ble_eq_true rfl)
  rw [lg_entry_eq]
  generalize (lg_sl ([.ref hT, .int x0, .int x1]) ++ List.replicate (5 - (lg_sl ([.ref hT, .int x0, .int x1])).length) Slot.unset).toArray = ls at hl ⊢
  have hl : lv_has ls 5 [(0, .ref hT), (1, .int x0), (2, .int x1)] := hl
  unfold f_X11_value at hF
  refine lv_iload_n hx hb dX11_value_0 rfl (lv_at hl 1 rfl) ?_
  refine lv_if_lt (tgt := 38) hx hb dX11_value_1 (by decide) (fun c => ?_) (fun c => ?_)
  · replace hF := iT c hF
    refine lv_lconst (v := (0 : Int64)) hx hb dX11_value_38 (by decide) ?_
    have hq := Option.some.inj hF
    subst hq
    exact rt_l C X dX11_value_39
  · replace hF := iF c hF
    refine lv_iload_n hx hb dX11_value_4 rfl (lv_at hl 1 rfl) ?_
    refine lv_aload_n hx hb dX11_value_5 rfl (lv_at hl 0 rfl) ?_
    obtain ⟨h_1, hF⟩ := grd_some hF
    refine va_get (D := D.1) (ci := 11) (v := .ref hT_8) (C := RX11) (T := TX11) (N := 14) hx hb hts wi_X11 hown X.1 X.2.1 0 rfl rfl 8 (by decide) (hts _ q2_155) (fun _ h9 => h9) ((fl_get (by decide)).trans (rf_eq h_1)) dX11_value_6 ?_
    refine va_getN (D := D.1) (ci := 4) (v := .int (gI gT_8 4)) (C := RX4) (T := TX4) (N := 14) hx hb hts wi_X4 hown X.1 X.2.1 16 rfl rfl 4 (by decide) (X.2.2.2.2.2.1.use q2_82 rfl) (fun _ h9 => h9) (fl_get (by decide)) dX11_value_9 ?_
    refine lv_icmp_ge (tgt := 38) hx hb dX11_value_12 (by decide) (fun c => ?_) (fun c => ?_)
    · replace hF := iT c hF
      refine lv_lconst (v := (0 : Int64)) hx hb dX11_value_38 (by decide) ?_
      have hq := Option.some.inj hF
      subst hq
      exact rt_l C X dX11_value_39
    · replace hF := iF c hF
      refine lv_iload_n hx hb dX11_value_15 rfl (lv_at hl 2 rfl) ?_
      refine lv_if_lt (tgt := 38) hx hb dX11_value_16 (by decide) (fun c => ?_) (fun c => ?_)
      · replace hF := iT c hF
        refine lv_lconst (v := (0 : Int64)) hx hb dX11_value_38 (by decide) ?_
        have hq := Option.some.inj hF
        subst hq
        exact rt_l C X dX11_value_39
      · replace hF := iF c hF
        refine lv_iload_n hx hb dX11_value_19 rfl (lv_at hl 2 rfl) ?_
        refine lv_bipush (v := (31 : Int32)) hx hb dX11_value_20 (by decide) ?_
        refine lv_icmp_gt (tgt := 38) hx hb dX11_value_22 (by decide) (fun c => ?_) (fun c => ?_)
        · replace hF := iT c hF
          refine lv_lconst (v := (0 : Int64)) hx hb dX11_value_38 (by decide) ?_
          have hq := Option.some.inj hF
          subst hq
          exact rt_l C X dX11_value_39
        · replace hF := iF c hF
          refine lv_iload_n hx hb dX11_value_25 rfl (lv_at hl 2 rfl) ?_
          refine lv_i2l hx hb dX11_value_26 rfl ?_
          refine lv_aload_n hx hb dX11_value_27 rfl (lv_at hl 0 rfl) ?_
          refine va_get (D := D.1) (ci := 11) (v := .ref (aT 3)) (C := RX11) (T := TX11) (N := 14) hx hb hts wi_X11 hown X.1 X.2.1 0 rfl rfl 3 (by decide) (hts _ q2_150) (fun _ h9 => h9) (fl_get (by decide)) dX11_value_28 ?_
          refine va_getN (D := D.1) (ci := 9) (v := .long (gL gT_3 14)) (C := RX9) (T := TX9) (N := 17) hx hb hts wi_X9 hown X.1 X.2.1 3 rfl rfl 14 (by decide) (X.2.2.2.2.2.1.use q1_87 rfl) (fun _ h9 => h9) (fl_get (by decide)) dX11_value_31 ?_
          refine W.lcmp hx hb dX11_value_34 ?_
          refine lv_if_le (tgt := 40) hx hb dX11_value_35 (by decide) (fun c => ?_) (fun c => ?_)
          · have c := (lg_cmp_le _ _).mp c
            replace hF := iT c hF
            refine lv_aload_n hx hb dX11_value_40 rfl (lv_at hl 0 rfl) ?_
            obtain ⟨h_2, hF⟩ := grd_some hF
            refine va_get (D := D.1) (ci := 11) (v := .ref hT_8) (C := RX11) (T := TX11) (N := 14) hx hb hts wi_X11 hown X.1 X.2.1 0 rfl rfl 8 (by decide) (hts _ q2_155) (fun _ h9 => h9) ((fl_get (by decide)).trans (rf_eq h_2)) dX11_value_41 ?_
            refine va_getN (D := D.1) (ci := 4) (v := .ref (aT_8 7)) (C := RX4) (T := TX4) (N := 14) hx hb hts wi_X4 hown X.1 X.2.1 16 rfl rfl 7 (by decide) (X.2.2.2.2.2.1.use q2_97 rfl) (fun _ h9 => h9) (fl_get (by decide)) dX11_value_44 ?_
            refine lv_iload_n hx hb dX11_value_47 rfl (lv_at hl 1 rfl) ?_
            obtain ⟨h_3, hF⟩ := grd_some hF
            refine va_iald (D := D.1) (f := gIA gT_8 7) hx hb X.1 X.2.1 20 16 rfl rfl (inB_ok h_3) dX11_value_48 ?_
            refine lv_istore_n (lv' := [(3, .int (gIA gT_8 7 x0.toNatClampNeg)), (0, .ref hT), (1, .int x0), (2, .int x1)]) hx hb dX11_value_49 rfl hl (by decide) rfl (fun ls hl => ?_)
            refine lv_iload_n hx hb dX11_value_50 rfl (lv_at hl 3 rfl) ?_
            refine lv_if_ne (tgt := 81) hx hb dX11_value_51 (by decide) (fun c => ?_) (fun c => ?_)
            · replace hF := iF c hF
              refine lv_aload_n hx hb dX11_value_81 rfl (lv_at hl 1 rfl) ?_
              refine va_get (D := D.1) (ci := 11) (v := .ref (aT 3)) (C := RX11) (T := TX11) (N := 14) hx hb hts wi_X11 hown X.1 X.2.1 0 rfl rfl 3 (by decide) (hts _ q2_150) (fun _ h9 => h9) (fl_get (by decide)) dX11_value_82 ?_
              refine lv_iload_n hx hb dX11_value_85 rfl (lv_at hl 3 rfl) ?_
              obtain ⟨q_4, hc_5, hF⟩ := bnd_some hF
              refine cV_i (As := [.int x1]) (rest := []) C X (c_X9_pastRow l D (aT 3) aT_3 yT_3 gT_3 x1 q_4 hc_5 _) (cwV 1 hts (good_V q5_195 q5_196 q5_197 q1_3 q5_198) rfl rfl rfl (by decide +kernel) ⟨Nat.le_of_ble_eq_true rfl, Nat.le_of_ble_eq_true rfl⟩) (va_recv X.1 X.2.1 (ci := 9) (q0 := 3) rfl rfl) (X.1.sub (tys' := tX9 yT_3) [1, 2, 3, 4, 5, 6, 7, 8, 9, 10, 11, 12] rfl) (X.2.1.sub (ws' := wX9 (aT 3) aT_3 yT_3 gT_3) [3, 4, 5, 6, 7, 8, 9, 10, 11, 12, 13, 14, 15] rfl) (X.2.2.1.sub (ws' := wX9 (aT 3) aT_3 yT_3 gT_3) [3, 4, 5, 6, 7, 8, 9, 10, 11, 12, 13, 14, 15] (by decide) rfl) (free_of (wC := wX9 (aT 3) aT_3 yT_3 gT_3) (isC := [3, 4, 5, 6, 7, 8, 9, 10, 11, 12, 13, 14, 15]) X rfl) hl.1 rfl rfl (Nat.le_of_ble_eq_true rfl) dX11_value_86 ⟨Nat.le_of_ble_eq_true rfl, Nat.le_of_ble_eq_true rfl⟩ (fun t H1 locs1 ht hB hk hS => ?_)
              have X : Hx D (tX11 yT ++ (tX6 yT_2 ++ (tX9 yT_3 ++ (tX4 yT_8)))) A s H1 locs1 (wX11 hT aT yT gT ++ (wX6 (aT 2) aT_2 yT_2 gT_2 ++ (wX9 (aT 3) aT_3 yT_3 gT_3 ++ (wX4 hT_8 aT_8 yT_8 gT_8)))) := Hx_after (isC := [3, 4, 5, 6, 7, 8, 9, 10, 11, 12, 13, 14, 15]) (isR := [0, 1, 2, 16, 17, 18, 19, 20, 21, 22, 23, 24, 25, 26]) (pm := [0, 1, 2, 14, 15, 16, 17, 18, 19, 20, 21, 22, 23, 24, 25, 26, 3, 4, 5, 6, 7, 8, 9, 10, 11, 12, 13]) (wr := wX11 hT aT yT gT ++ (wX6 (aT 2) aT_2 yT_2 gT_2 ++ (wX4 hT_8 aT_8 yT_8 gT_8))) X ⟨rfl, rfl, by decide, by decide, rfl, by decide⟩ ht hB hk hS
              clear hk hS ht hB
              generalize H1 = H at X ⊢
              generalize locs1 = locs at X ⊢
              refine lv_iload_n hx hb dX11_value_89 rfl (lv_at hl 2 rfl) ?_
              refine lv_iadd hx hb dX11_value_90 ?_
              refine lv_istore (lv' := [(4, .int (q_4 + x0)), (3, .int (gIA gT_8 7 x0.toNatClampNeg)), (0, .ref hT), (1, .int x0), (2, .int x1)]) hx hb dX11_value_91 hl (by decide) rfl (fun ls hl => ?_)
              refine lv_aload_n hx hb dX11_value_93 rfl (lv_at hl 2 rfl) ?_
              refine va_get (D := D.1) (ci := 11) (v := .ref (aT 2)) (C := RX11) (T := TX11) (N := 14) hx hb hts wi_X11 hown X.1 X.2.1 0 rfl rfl 2 (by decide) (hts _ q2_149) (fun _ h9 => h9) (fl_get (by decide)) dX11_value_94 ?_
              refine lv_iload_n hx hb dX11_value_97 rfl (lv_at hl 1 rfl) ?_
              refine lv_aload_n hx hb dX11_value_98 rfl (lv_at hl 2 rfl) ?_
              refine va_get (D := D.1) (ci := 11) (v := .ref (aT 3)) (C := RX11) (T := TX11) (N := 14) hx hb hts wi_X11 hown X.1 X.2.1 0 rfl rfl 3 (by decide) (hts _ q2_150) (fun _ h9 => h9) (fl_get (by decide)) dX11_value_99 ?_
              refine va_getN (D := D.1) (ci := 9) (v := .ref (aT_3 4)) (C := RX9) (T := TX9) (N := 17) hx hb hts wi_X9 hown X.1 X.2.1 3 rfl rfl 4 (by decide) (X.2.2.2.2.2.1.use q1_66 rfl) (fun _ h9 => h9) (fl_get (by decide)) dX11_value_102 ?_
              refine lv_iload hx hb dX11_value_105 (lv_at hl 0 rfl) ?_
              obtain ⟨h_6, hF⟩ := grd_some hF
              refine va_lald (D := D.1) (f := gLA gT_3 4) hx hb X.1 X.2.1 8 5 rfl rfl (inB_ok h_6) dX11_value_107 ?_
              refine lv_aload_n hx hb dX11_value_108 rfl (lv_at hl 2 rfl) ?_
              refine va_get (D := D.1) (ci := 11) (v := .ref (aT 3)) (C := RX11) (T := TX11) (N := 14) hx hb hts wi_X11 hown X.1 X.2.1 0 rfl rfl 3 (by decide) (hts _ q2_150) (fun _ h9 => h9) (fl_get (by decide)) dX11_value_109 ?_
              refine va_getN (D := D.1) (ci := 9) (v := .ref (aT_3 5)) (C := RX9) (T := TX9) (N := 17) hx hb hts wi_X9 hown X.1 X.2.1 3 rfl rfl 5 (by decide) (X.2.2.2.2.2.1.use q1_68 rfl) (fun _ h9 => h9) (fl_get (by decide)) dX11_value_112 ?_
              refine lv_iload hx hb dX11_value_115 (lv_at hl 0 rfl) ?_
              obtain ⟨h_7, hF⟩ := grd_some hF
              refine va_dald (D := D.1) (f := gDA gT_3 5) hx hb X.1 X.2.1 9 6 rfl rfl (inB_ok h_7) dX11_value_117 ?_
              obtain ⟨q_8, hc_9, hF⟩ := bnd_some hF
              refine cV_l (As := [.int (gIA gT_8 7 x0.toNatClampNeg), .long (gLA gT_3 4 (q_4 + x0).toNatClampNeg), .double (gDA gT_3 5 (q_4 + x0).toNatClampNeg)]) (rest := []) C X (c_X6_bitsOf l D (aT 2) aT_2 yT_2 n gT_2 (gIA gT_8 7 x0.toNatClampNeg) (gLA gT_3 4 (q_4 + x0).toNatClampNeg) (gDA gT_3 5 (q_4 + x0).toNatClampNeg) q_8 hc_9 _) (cwV 3 hts (good_V q5_177 q5_178 q5_179 q1_2 q5_180) rfl rfl rfl (by decide +kernel) ⟨Nat.le_of_ble_eq_true rfl, Nat.le_of_ble_eq_true rfl⟩) (va_recv X.1 X.2.1 (ci := 6) (q0 := 1) rfl rfl) (X.1.sub (tys' := tX6 yT_2) [0] rfl) (X.2.1.sub (ws' := wX6 (aT 2) aT_2 yT_2 gT_2) [1, 2] rfl) (X.2.2.1.sub (ws' := wX6 (aT 2) aT_2 yT_2 gT_2) [1, 2] (by decide) rfl) (free_of (wC := wX6 (aT 2) aT_2 yT_2 gT_2) (isC := [1, 2]) X rfl) hl.1 rfl rfl (Nat.le_of_ble_eq_true rfl) dX11_value_118 ⟨Nat.le_of_ble_eq_true rfl, Nat.le_of_ble_eq_true rfl⟩ (fun t H1 locs1 ht hB hk hS => ?_)
              have X : Hx D (tX11 yT ++ (tX6 yT_2 ++ (tX9 yT_3 ++ (tX4 yT_8)))) A s H1 locs1 (wX11 hT aT yT gT ++ (wX6 (aT 2) aT_2 yT_2 gT_2 ++ (wX9 (aT 3) aT_3 yT_3 gT_3 ++ (wX4 hT_8 aT_8 yT_8 gT_8)))) := Hx_after (isC := [1, 2]) (isR := [0, 3, 4, 5, 6, 7, 8, 9, 10, 11, 12, 13, 14, 15, 16, 17, 18, 19, 20, 21, 22, 23, 24, 25, 26]) (pm := [0, 25, 26, 1, 2, 3, 4, 5, 6, 7, 8, 9, 10, 11, 12, 13, 14, 15, 16, 17, 18, 19, 20, 21, 22, 23, 24]) (wr := wX11 hT aT yT gT ++ (wX9 (aT 3) aT_3 yT_3 gT_3 ++ (wX4 hT_8 aT_8 yT_8 gT_8))) X ⟨rfl, rfl, by decide, by decide, rfl, by decide⟩ ht hB hk hS
              clear hk hS ht hB
              generalize H1 = H at X ⊢
              generalize locs1 = locs at X ⊢
              have hq := Option.some.inj hF
              subst hq
              exact rt_l C X dX11_value_121
            · replace hF := iT c hF
              refine lv_aload_n hx hb dX11_value_54 rfl (lv_at hl 1 rfl) ?_
              refine va_get (D := D.1) (ci := 11) (v := .ref (aT 2)) (C := RX11) (T := TX11) (N := 14) hx hb hts wi_X11 hown X.1 X.2.1 0 rfl rfl 2 (by decide) (hts _ q2_149) (fun _ h9 => h9) (fl_get (by decide)) dX11_value_55 ?_
              refine lv_iload_n hx hb dX11_value_58 rfl (lv_at hl 0 rfl) ?_
              refine lv_aload_n hx hb dX11_value_59 rfl (lv_at hl 1 rfl) ?_
              refine va_get (D := D.1) (ci := 11) (v := .ref (aT 3)) (C := RX11) (T := TX11) (N := 14) hx hb hts wi_X11 hown X.1 X.2.1 0 rfl rfl 3 (by decide) (hts _ q2_150) (fun _ h9 => h9) (fl_get (by decide)) dX11_value_60 ?_
              refine va_getN (D := D.1) (ci := 9) (v := .ref (aT_3 0)) (C := RX9) (T := TX9) (N := 17) hx hb hts wi_X9 hown X.1 X.2.1 3 rfl rfl 0 (by decide) (X.2.2.2.2.2.1.use q1_55 rfl) (fun _ h9 => h9) (fl_get (by decide)) dX11_value_63 ?_
              refine lv_iload_n hx hb dX11_value_66 rfl (lv_at hl 2 rfl) ?_
              obtain ⟨h_10, hF⟩ := grd_some hF
              refine va_lald (D := D.1) (f := gLA gT_3 0) hx hb X.1 X.2.1 4 1 rfl rfl (inB_ok h_10) dX11_value_67 ?_
              refine lv_aload_n hx hb dX11_value_68 rfl (lv_at hl 1 rfl) ?_
              refine va_get (D := D.1) (ci := 11) (v := .ref (aT 3)) (C := RX11) (T := TX11) (N := 14) hx hb hts wi_X11 hown X.1 X.2.1 0 rfl rfl 3 (by decide) (hts _ q2_150) (fun _ h9 => h9) (fl_get (by decide)) dX11_value_69 ?_
              refine va_getN (D := D.1) (ci := 9) (v := .ref (aT_3 1)) (C := RX9) (T := TX9) (N := 17) hx hb hts wi_X9 hown X.1 X.2.1 3 rfl rfl 1 (by decide) (X.2.2.2.2.2.1.use q1_58 rfl) (fun _ h9 => h9) (fl_get (by decide)) dX11_value_72 ?_
              refine lv_iload_n hx hb dX11_value_75 rfl (lv_at hl 2 rfl) ?_
              obtain ⟨h_11, hF⟩ := grd_some hF
              refine va_dald (D := D.1) (f := gDA gT_3 1) hx hb X.1 X.2.1 5 2 rfl rfl (inB_ok h_11) dX11_value_76 ?_
              obtain ⟨q_12, hc_13, hF⟩ := bnd_some hF
              refine cV_l (As := [.int (gIA gT_8 7 x0.toNatClampNeg), .long (gLA gT_3 0 x0.toNatClampNeg), .double (gDA gT_3 1 x0.toNatClampNeg)]) (rest := []) C X (c_X6_bitsOf l D (aT 2) aT_2 yT_2 n gT_2 (gIA gT_8 7 x0.toNatClampNeg) (gLA gT_3 0 x0.toNatClampNeg) (gDA gT_3 1 x0.toNatClampNeg) q_12 hc_13 _) (cwV 3 hts (good_V q5_177 q5_178 q5_179 q1_2 q5_180) rfl rfl rfl (by decide +kernel) ⟨Nat.le_of_ble_eq_true rfl, Nat.le_of_ble_eq_true rfl⟩) (va_recv X.1 X.2.1 (ci := 6) (q0 := 1) rfl rfl) (X.1.sub (tys' := tX6 yT_2) [0] rfl) (X.2.1.sub (ws' := wX6 (aT 2) aT_2 yT_2 gT_2) [1, 2] rfl) (X.2.2.1.sub (ws' := wX6 (aT 2) aT_2 yT_2 gT_2) [1, 2] (by decide) rfl) (free_of (wC := wX6 (aT 2) aT_2 yT_2 gT_2) (isC := [1, 2]) X rfl) hl.1 rfl rfl (Nat.le_of_ble_eq_true rfl) dX11_value_77 ⟨Nat.le_of_ble_eq_true rfl, Nat.le_of_ble_eq_true rfl⟩ (fun t H1 locs1 ht hB hk hS => ?_)
              have X : Hx D (tX11 yT ++ (tX6 yT_2 ++ (tX9 yT_3 ++ (tX4 yT_8)))) A s H1 locs1 (wX11 hT aT yT gT ++ (wX6 (aT 2) aT_2 yT_2 gT_2 ++ (wX9 (aT 3) aT_3 yT_3 gT_3 ++ (wX4 hT_8 aT_8 yT_8 gT_8)))) := Hx_after (isC := [1, 2]) (isR := [0, 3, 4, 5, 6, 7, 8, 9, 10, 11, 12, 13, 14, 15, 16, 17, 18, 19, 20, 21, 22, 23, 24, 25, 26]) (pm := [0, 25, 26, 1, 2, 3, 4, 5, 6, 7, 8, 9, 10, 11, 12, 13, 14, 15, 16, 17, 18, 19, 20, 21, 22, 23, 24]) (wr := wX11 hT aT yT gT ++ (wX9 (aT 3) aT_3 yT_3 gT_3 ++ (wX4 hT_8 aT_8 yT_8 gT_8))) X ⟨rfl, rfl, by decide, by decide, rfl, by decide⟩ ht hB hk hS
              clear hk hS ht hB
              generalize H1 = H at X ⊢
              generalize locs1 = locs at X ⊢
              have hq := Option.some.inj hF
              subst hq
              exact rt_l C X dX11_value_80
          · have c := fun h => c ((lg_cmp_le _ _).mpr h)
            replace hF := iF c hF
            refine lv_lconst (v := (0 : Int64)) hx hb dX11_value_38 (by decide) ?_
            have hq := Option.some.inj hF
            subst hq
            exact rt_l C X dX11_value_39

/-! ### X11_set -/
theorem dX11_set_0 : decode cX11_set 0 = .ok (.iload_n 1, 1) := by decide +kernel
theorem dX11_set_1 : decode cX11_set 1 = .ok (.ifCond .lt 26, 3) := by decide +kernel
theorem dX11_set_4 : decode cX11_set 4 = .ok (.iload_n 1, 1) := by decide +kernel
theorem dX11_set_5 : decode cX11_set 5 = .ok (.aload_n 0, 1) := by decide +kernel
theorem dX11_set_6 : decode cX11_set 6 = .ok (.getfield 63, 3) := by decide +kernel
theorem dX11_set_9 : decode cX11_set 9 = .ok (.getfield 116, 3) := by decide +kernel
theorem dX11_set_12 : decode cX11_set 12 = .ok (.if_icmp .ge 15, 3) := by decide +kernel
theorem dX11_set_15 : decode cX11_set 15 = .ok (.aload_n 0, 1) := by decide +kernel
theorem dX11_set_16 : decode cX11_set 16 = .ok (.getfield 63, 3) := by decide +kernel
theorem dX11_set_19 : decode cX11_set 19 = .ok (.getfield 149, 3) := by decide +kernel
theorem dX11_set_22 : decode cX11_set 22 = .ok (.iload_n 1, 1) := by decide +kernel
theorem dX11_set_23 : decode cX11_set 23 = .ok (.baload, 1) := by decide +kernel
theorem dX11_set_24 : decode cX11_set 24 = .ok (.ifCond .ne 5, 3) := by decide +kernel
theorem dX11_set_27 : decode cX11_set 27 = .ok (.iconst 0, 1) := by decide +kernel
theorem dX11_set_28 : decode cX11_set 28 = .ok (.ireturn, 1) := by decide +kernel
theorem dX11_set_29 : decode cX11_set 29 = .ok (.aload_n 0, 1) := by decide +kernel
theorem dX11_set_30 : decode cX11_set 30 = .ok (.getfield 63, 3) := by decide +kernel
theorem dX11_set_33 : decode cX11_set 33 = .ok (.getfield 145, 3) := by decide +kernel
theorem dX11_set_36 : decode cX11_set 36 = .ok (.iload_n 1, 1) := by decide +kernel
theorem dX11_set_37 : decode cX11_set 37 = .ok (.iaload, 1) := by decide +kernel
theorem dX11_set_38 : decode cX11_set 38 = .ok (.istore 4, 2) := by decide +kernel
theorem dX11_set_40 : decode cX11_set 40 = .ok (.iload 4, 2) := by decide +kernel
theorem dX11_set_42 : decode cX11_set 42 = .ok (.bipush 7, 2) := by decide +kernel
theorem dX11_set_44 : decode cX11_set 44 = .ok (.if_icmp .ne 10, 3) := by decide +kernel
theorem dX11_set_47 : decode cX11_set 47 = .ok (.lload_n 2, 1) := by decide +kernel
theorem dX11_set_48 : decode cX11_set 48 = .ok (.invokestatic 203, 3) := by decide +kernel
theorem dX11_set_51 : decode cX11_set 51 = .ok (.ifCond .eq 17, 3) := by decide +kernel
theorem dX11_set_54 : decode cX11_set 54 = .ok (.iload 4, 2) := by decide +kernel
theorem dX11_set_56 : decode cX11_set 56 = .ok (.bipush 6, 2) := by decide +kernel
theorem dX11_set_58 : decode cX11_set 58 = .ok (.if_icmp .ne 12, 3) := by decide +kernel
theorem dX11_set_61 : decode cX11_set 61 = .ok (.lload_n 2, 1) := by decide +kernel
theorem dX11_set_62 : decode cX11_set 62 = .ok (.invokestatic 207, 3) := by decide +kernel
theorem dX11_set_65 : decode cX11_set 65 = .ok (.ifCond .ne 5, 3) := by decide +kernel
theorem dX11_set_68 : decode cX11_set 68 = .ok (.iconst 0, 1) := by decide +kernel
theorem dX11_set_69 : decode cX11_set 69 = .ok (.ireturn, 1) := by decide +kernel
theorem dX11_set_70 : decode cX11_set 70 = .ok (.aload_n 0, 1) := by decide +kernel
theorem dX11_set_71 : decode cX11_set 71 = .ok (.getfield 27, 3) := by decide +kernel
theorem dX11_set_74 : decode cX11_set 74 = .ok (.getfield 182, 3) := by decide +kernel
theorem dX11_set_77 : decode cX11_set 77 = .ok (.iload_n 1, 1) := by decide +kernel
theorem dX11_set_78 : decode cX11_set 78 = .ok (.iload 4, 2) := by decide +kernel
theorem dX11_set_80 : decode cX11_set 80 = .ok (.lload_n 2, 1) := by decide +kernel
theorem dX11_set_81 : decode cX11_set 81 = .ok (.invokestatic 210, 3) := by decide +kernel
theorem dX11_set_84 : decode cX11_set 84 = .ok (.lastore, 1) := by decide +kernel
theorem dX11_set_85 : decode cX11_set 85 = .ok (.aload_n 0, 1) := by decide +kernel
theorem dX11_set_86 : decode cX11_set 86 = .ok (.getfield 27, 3) := by decide +kernel
theorem dX11_set_89 : decode cX11_set 89 = .ok (.getfield 186, 3) := by decide +kernel
theorem dX11_set_92 : decode cX11_set 92 = .ok (.iload_n 1, 1) := by decide +kernel
theorem dX11_set_93 : decode cX11_set 93 = .ok (.aload_n 0, 1) := by decide +kernel
theorem dX11_set_94 : decode cX11_set 94 = .ok (.getfield 20, 3) := by decide +kernel
theorem dX11_set_97 : decode cX11_set 97 = .ok (.iload 4, 2) := by decide +kernel
theorem dX11_set_99 : decode cX11_set 99 = .ok (.lload_n 2, 1) := by decide +kernel
theorem dX11_set_100 : decode cX11_set 100 = .ok (.invokevirtual 214, 3) := by decide +kernel
theorem dX11_set_103 : decode cX11_set 103 = .ok (.dastore, 1) := by decide +kernel
theorem dX11_set_104 : decode cX11_set 104 = .ok (.aload_n 0, 1) := by decide +kernel
theorem dX11_set_105 : decode cX11_set 105 = .ok (.getfield 27, 3) := by decide +kernel
theorem dX11_set_108 : decode cX11_set 108 = .ok (.getfield 218, 3) := by decide +kernel
theorem dX11_set_111 : decode cX11_set 111 = .ok (.iload_n 1, 1) := by decide +kernel
theorem dX11_set_112 : decode cX11_set 112 = .ok (.aload_n 0, 1) := by decide +kernel
theorem dX11_set_113 : decode cX11_set 113 = .ok (.getfield 27, 3) := by decide +kernel
theorem dX11_set_116 : decode cX11_set 116 = .ok (.getfield 182, 3) := by decide +kernel
theorem dX11_set_119 : decode cX11_set 119 = .ok (.iload_n 1, 1) := by decide +kernel
theorem dX11_set_120 : decode cX11_set 120 = .ok (.laload, 1) := by decide +kernel
theorem dX11_set_121 : decode cX11_set 121 = .ok (.lastore, 1) := by decide +kernel
theorem dX11_set_122 : decode cX11_set 122 = .ok (.aload_n 0, 1) := by decide +kernel
theorem dX11_set_123 : decode cX11_set 123 = .ok (.getfield 27, 3) := by decide +kernel
theorem dX11_set_126 : decode cX11_set 126 = .ok (.getfield 221, 3) := by decide +kernel
theorem dX11_set_129 : decode cX11_set 129 = .ok (.iload_n 1, 1) := by decide +kernel
theorem dX11_set_130 : decode cX11_set 130 = .ok (.aload_n 0, 1) := by decide +kernel
theorem dX11_set_131 : decode cX11_set 131 = .ok (.getfield 27, 3) := by decide +kernel
theorem dX11_set_134 : decode cX11_set 134 = .ok (.getfield 186, 3) := by decide +kernel
theorem dX11_set_137 : decode cX11_set 137 = .ok (.iload_n 1, 1) := by decide +kernel
theorem dX11_set_138 : decode cX11_set 138 = .ok (.daload, 1) := by decide +kernel
theorem dX11_set_139 : decode cX11_set 139 = .ok (.dastore, 1) := by decide +kernel
theorem dX11_set_140 : decode cX11_set 140 = .ok (.iconst 1, 1) := by decide +kernel
theorem dX11_set_141 : decode cX11_set 141 = .ok (.ireturn, 1) := by decide +kernel
abbrev R_X11_set : Room := ({ frames := 3, cells := 0, slots := 0, locals := 116 } : Room)
def b_X11_set_70 (hT_8 : Nat) (gT : Gs) (gT_2 : Gs) (gT_3 : Gs) (gT_8 : Gs) (v1 : Int32) (v2 : Int64) (v4 : Int32) : Option (Int32 × Gs) :=
  bnd (f_X6_wholeOf v4 v2) (fun q_6 => grd (inB v1 40) (bnd (f_X6_realOf gT_2 v4 v2) (fun q_9 => grd (inB v1 40) (grd (inB v1 40) (grd (inB v1 40) (grd (inB v1 40) (grd (inB v1 40) (some ((1 : Int32), (sDA (sLA (sDA (sLA gT_3 0 (vp_updL (gLA gT_3 0) v1.toNatClampNeg q_6)) 1 (vf_upd (gDA gT_3 1) v1.toNatClampNeg q_9)) 2 (vp_updL (gLA gT_3 2) v1.toNatClampNeg ((vp_updL (gLA gT_3 0) v1.toNatClampNeg q_6) v1.toNatClampNeg))) 3 (vf_upd (gDA gT_3 3) v1.toNatClampNeg ((vf_upd (gDA gT_3 1) v1.toNatClampNeg q_9) v1.toNatClampNeg))))))))))))
def b_X11_set_54 (hT_8 : Nat) (gT : Gs) (gT_2 : Gs) (gT_3 : Gs) (gT_8 : Gs) (v1 : Int32) (v2 : Int64) (v4 : Int32) : Option (Int32 × Gs) :=
  if v4 = (6 : Int32) then (bnd (f_X6_isFiniteFloat v2) (fun q_16 => if q_16 = 0 then (some ((0 : Int32), gT_3)) else (b_X11_set_70 hT_8 gT gT_2 gT_3 gT_8 v1 v2 v4))) else (b_X11_set_70 hT_8 gT gT_2 gT_3 gT_8 v1 v2 v4)
def f_X11_set (hT_8 : Nat) (gT : Gs) (gT_2 : Gs) (gT_3 : Gs) (gT_8 : Gs) (x0 : Int32) (x1 : Int64) : Option (Int32 × Gs) :=
  if x0 < 0 then (some ((0 : Int32), gT_3)) else (grd (rEq (gR gT 8) hT_8) (if (gI gT_8 4) ≤ x0 then (some ((0 : Int32), gT_3)) else (grd (rEq (gR gT 8) hT_8) (grd (inB x0 40) (if (gIA gT_8 8 x0.toNatClampNeg) = 0 then (some ((0 : Int32), gT_3)) else (grd (rEq (gR gT 8) hT_8) (grd (inB x0 40) (if (gIA gT_8 7 x0.toNatClampNeg) = (7 : Int32) then (bnd (f_X6_isFinite x1) (fun q_18 => if q_18 = 0 then (some ((0 : Int32), gT_3)) else (b_X11_set_54 hT_8 gT gT_2 gT_3 gT_8 x0 x1 (gIA gT_8 7 x0.toNatClampNeg)))) else (b_X11_set_54 hT_8 gT gT_2 gT_3 gT_8 x0 x1 (gIA gT_8 7 x0.toNatClampNeg))))))))))
def S_X11_set_70 (l : Launch) (D : Dx) (hT : Nat) (aT : Nat → Nat) (yT : Nat → ClassId) (aT_2 : Nat → Nat) (yT_2 : Nat → ClassId) (aT_3 : Nat → Nat) (yT_3 : Nat → ClassId) (hT_8 : Nat) (aT_8 : Nat → Nat) (yT_8 : Nat → ClassId) (fn : Gs → Gs → Gs → Gs → Int32 → Int64 → Int32 → Option (Int32 × Gs)) : Prop :=
  ∀ {p : Program} {e : Env} {s : State} {m : MethodId} {args : Array Value} {below : List Frame} {meth : Method} {c : Code} {H : Heap} {locs : List Loc} {A : Nat → Prop} {ls : Array Slot} {gT : Gs} {gT_2 : Gs} {gT_3 : Gs} {gT_8 : Gs} {v1 : Int32} {v2 : Int64} {v4 : Int32} {q : Int32 × Gs}, Cx p s m args meth c cX11_set (some .boolean) 5 RX11 lw_all → Hx D (tX11 yT ++ (tX6 yT_2 ++ (tX9 yT_3 ++ (tX4 yT_8)))) A s H locs (wX11 hT aT yT gT ++ (wX6 (aT 2) aT_2 yT_2 gT_2 ++ (wX9 (aT 3) aT_3 yT_3 gT_3 ++ (wX4 hT_8 aT_8 yT_8 gT_8)))) → lv_has ls 5 [(0, .ref hT), (1, .int v1), (2, .long v2), (4, .int v4)] → fn gT gT_2 gT_3 gT_8 v1 v2 v4 = some q → W p l e R_X11_set s m args below meth c H locs 0 0 (MQ below (QI D A (wX11 hT aT yT gT ++ (wX6 (aT 2) aT_2 yT_2 gT_2 ++ (wX9 (aT 3) aT_3 yT_3 q.2 ++ (wX4 hT_8 aT_8 yT_8 gT_8)))) q.1) args s 0 0 A) (F0 m 70 ls [])
def S_X11_set_54 (l : Launch) (D : Dx) (hT : Nat) (aT : Nat → Nat) (yT : Nat → ClassId) (aT_2 : Nat → Nat) (yT_2 : Nat → ClassId) (aT_3 : Nat → Nat) (yT_3 : Nat → ClassId) (hT_8 : Nat) (aT_8 : Nat → Nat) (yT_8 : Nat → ClassId) (fn : Gs → Gs → Gs → Gs → Int32 → Int64 → Int32 → Option (Int32 × Gs)) : Prop :=
  ∀ {p : Program} {e : Env} {s : State} {m : MethodId} {args : Array Value} {below : List Frame} {meth : Method} {c : Code} {H : Heap} {locs : List Loc} {A : Nat → Prop} {ls : Array Slot} {gT : Gs} {gT_2 : Gs} {gT_3 : Gs} {gT_8 : Gs} {v1 : Int32} {v2 : Int64} {v4 : Int32} {q : Int32 × Gs}, Cx p s m args meth c cX11_set (some .boolean) 5 RX11 lw_all → Hx D (tX11 yT ++ (tX6 yT_2 ++ (tX9 yT_3 ++ (tX4 yT_8)))) A s H locs (wX11 hT aT yT gT ++ (wX6 (aT 2) aT_2 yT_2 gT_2 ++ (wX9 (aT 3) aT_3 yT_3 gT_3 ++ (wX4 hT_8 aT_8 yT_8 gT_8)))) → lv_has ls 5 [(0, .ref hT), (1, .int v1), (2, .long v2), (4, .int v4)] → fn gT gT_2 gT_3 gT_8 v1 v2 v4 = some q → W p l e R_X11_set s m args below meth c H locs 0 0 (MQ below (QI D A (wX11 hT aT yT gT ++ (wX6 (aT 2) aT_2 yT_2 gT_2 ++ (wX9 (aT 3) aT_3 yT_3 q.2 ++ (wX4 hT_8 aT_8 yT_8 gT_8)))) q.1) args s 0 0 A) (F0 m 54 ls [])
set_option maxHeartbeats 4000000 in
set_option maxRecDepth 100000 in
theorem k_X11_set_70 (l : Launch) (D : Dx) (hT : Nat) (aT : Nat → Nat) (yT : Nat → ClassId) (aT_2 : Nat → Nat) (yT_2 : Nat → ClassId) (aT_3 : Nat → Nat) (yT_3 : Nat → ClassId) (hT_8 : Nat) (aT_8 : Nat → Nat) (yT_8 : Nat → ClassId) : S_X11_set_70 l D hT aT yT aT_2 yT_2 aT_3 yT_3 hT_8 aT_8 yT_8 (b_X11_set_70 hT_8) := by
  intro p e s m args below meth c H locs A ls gT gT_2 gT_3 gT_8 v1 v2 v4 q C X hl hF
  obtain ⟨hx, hb, hr, hml, hown, hts, hlk⟩ := id C
  unfold b_X11_set_70 at hF
  refine lv_aload_n hx hb dX11_set_70 rfl (lv_at hl 0 rfl) ?_
  refine va_get (D := D.1) (ci := 11) (v := .ref (aT 3)) (C := RX11) (T := TX11) (N := 14) hx hb hts wi_X11 hown X.1 X.2.1 0 rfl rfl 3 (by decide) (hts _ q2_150) (fun _ h9 => h9) (fl_get (by decide)) dX11_set_71 ?_
  refine va_getN (D := D.1) (ci := 9) (v := .ref (aT_3 0)) (C := RX9) (T := TX9) (N := 17) hx hb hts wi_X9 hown X.1 X.2.1 3 rfl rfl 0 (by decide) (X.2.2.2.2.2.1.use q1_55 rfl) (fun _ h9 => h9) (fl_get (by decide)) dX11_set_74 ?_
  refine lv_iload_n hx hb dX11_set_77 rfl (lv_at hl 1 rfl) ?_
  refine lv_iload hx hb dX11_set_78 (lv_at hl 3 rfl) ?_
  refine lv_lload_n hx hb dX11_set_80 rfl (lv_at hl 2 rfl) ?_
  obtain ⟨q_6, hc_7, hF⟩ := bnd_some hF
  refine cS_l (As := [.int v4, .long v2]) (rest := [.int v1, .ref (aT_3 0)]) C X (c_X6_wholeOf l D  v4 v2 q_6 hc_7 _) (va_cwS 2 hts (good_S q5_212 q5_56 q1_2 q5_57) rfl rfl rfl (by decide +kernel) ⟨Nat.le_of_ble_eq_true rfl, Nat.le_of_ble_eq_true rfl⟩) (eK X) eP (eD (A := A)) (eF X) hl.1 rfl rfl (Nat.le_of_ble_eq_true rfl) dX11_set_81 ⟨Nat.le_of_ble_eq_true rfl, Nat.le_of_ble_eq_true rfl⟩ (fun t H1 locs1 ht hB hk hS => ?_)
  have X := Hx_after_none X hk hS
  clear hk hS ht hB
  generalize H1 = H at X ⊢
  generalize locs1 = locs at X ⊢
  obtain ⟨h_8, hF⟩ := grd_some hF
  refine va_last (D := D.1) (f := gLA gT_3 0) hx hb X.1 X.2.1 X.2.2.1 X.2.2.2.1 4 1 rfl rfl (inB_ok h_8) dX11_set_84 (fun H locs hP hD hS => ?_)
  have X : Hx D (tX11 yT ++ (tX6 yT_2 ++ (tX9 yT_3 ++ (tX4 yT_8)))) A s H locs (wX11 hT aT yT gT ++ (wX6 (aT 2) aT_2 yT_2 gT_2 ++ (wX9 (aT 3) aT_3 yT_3 (sLA gT_3 0 (vp_updL (gLA gT_3 0) v1.toNatClampNeg q_6)) ++ (wX4 hT_8 aT_8 yT_8 gT_8)))) := Hx_set X (set_r (n := 1) (i := 3) (j := 4) (wG_len rfl) rfl (set_r (n := 2) (i := 1) (j := 3) (wG_len rfl) rfl (set_l (by rw [wG_len (m := 13) rfl]; decide) (wG_sLA (i := 0) (k := 0) ndX9 rfl rfl)))) hP hD hS
  refine lv_aload_n hx hb dX11_set_85 rfl (lv_at hl 0 rfl) ?_
  refine va_get (D := D.1) (ci := 11) (v := .ref (aT 3)) (C := RX11) (T := TX11) (N := 14) hx hb hts wi_X11 hown X.1 X.2.1 0 rfl rfl 3 (by decide) (hts _ q2_150) (fun _ h9 => h9) (fl_get (by decide)) dX11_set_86 ?_
  refine va_getN (D := D.1) (ci := 9) (v := .ref (aT_3 1)) (C := RX9) (T := TX9) (N := 17) hx hb hts wi_X9 hown X.1 X.2.1 3 rfl rfl 1 (by decide) (X.2.2.2.2.2.1.use q1_58 rfl) (fun _ h9 => h9) (fl_get (by decide)) dX11_set_89 ?_
  refine lv_iload_n hx hb dX11_set_92 rfl (lv_at hl 1 rfl) ?_
  refine lv_aload_n hx hb dX11_set_93 rfl (lv_at hl 0 rfl) ?_
  refine va_get (D := D.1) (ci := 11) (v := .ref (aT 2)) (C := RX11) (T := TX11) (N := 14) hx hb hts wi_X11 hown X.1 X.2.1 0 rfl rfl 2 (by decide) (hts _ q2_149) (fun _ h9 => h9) (fl_get (by decide)) dX11_set_94 ?_
  refine lv_iload hx hb dX11_set_97 (lv_at hl 3 rfl) ?_
  refine lv_lload_n hx hb dX11_set_99 rfl (lv_at hl 2 rfl) ?_
  obtain ⟨q_9, hc_10, hF⟩ := bnd_some hF
  refine cV_d (As := [.int v4, .long v2]) (rest := [.int v1, .ref (aT_3 1)]) C X (c_X6_realOf l D (aT 2) aT_2 yT_2 gT_2 v4 v2 q_9 hc_10 _) (cwV 2 hts (good_V q5_213 q5_214 q5_215 q1_2 q5_216) rfl rfl rfl (by decide +kernel) ⟨Nat.le_of_ble_eq_true rfl, Nat.le_of_ble_eq_true rfl⟩) (va_recv X.1 X.2.1 (ci := 6) (q0 := 1) rfl rfl) (X.1.sub (tys' := tX6 yT_2) [0] rfl) (X.2.1.sub (ws' := wX6 (aT 2) aT_2 yT_2 gT_2) [1, 2] rfl) (X.2.2.1.sub (ws' := wX6 (aT 2) aT_2 yT_2 gT_2) [1, 2] (by decide) rfl) (free_of (wC := wX6 (aT 2) aT_2 yT_2 gT_2) (isC := [1, 2]) X rfl) hl.1 rfl rfl (Nat.le_of_ble_eq_true rfl) dX11_set_100 ⟨Nat.le_of_ble_eq_true rfl, Nat.le_of_ble_eq_true rfl⟩ (fun t H1 locs1 ht hB hk hS => ?_)
  have X : Hx D (tX11 yT ++ (tX6 yT_2 ++ (tX9 yT_3 ++ (tX4 yT_8)))) A s H1 locs1 (wX11 hT aT yT gT ++ (wX6 (aT 2) aT_2 yT_2 gT_2 ++ (wX9 (aT 3) aT_3 yT_3 (sLA gT_3 0 (vp_updL (gLA gT_3 0) v1.toNatClampNeg q_6)) ++ (wX4 hT_8 aT_8 yT_8 gT_8)))) := Hx_after (isC := [1, 2]) (isR := [0, 3, 4, 5, 6, 7, 8, 9, 10, 11, 12, 13, 14, 15, 16, 17, 18, 19, 20, 21, 22, 23, 24, 25, 26]) (pm := [0, 25, 26, 1, 2, 3, 4, 5, 6, 7, 8, 9, 10, 11, 12, 13, 14, 15, 16, 17, 18, 19, 20, 21, 22, 23, 24]) (wr := wX11 hT aT yT gT ++ (wX9 (aT 3) aT_3 yT_3 (sLA gT_3 0 (vp_updL (gLA gT_3 0) v1.toNatClampNeg q_6)) ++ (wX4 hT_8 aT_8 yT_8 gT_8))) X ⟨rfl, rfl, by decide, by decide, rfl, by decide⟩ ht hB hk hS
  clear hk hS ht hB
  generalize H1 = H at X ⊢
  generalize locs1 = locs at X ⊢
  obtain ⟨h_11, hF⟩ := grd_some hF
  refine va_dast (D := D.1) (f := gDA gT_3 1) hx hb X.1 X.2.1 X.2.2.1 X.2.2.2.1 5 2 rfl rfl (inB_ok h_11) dX11_set_103 (fun H locs hP hD hS => ?_)
  have X : Hx D (tX11 yT ++ (tX6 yT_2 ++ (tX9 yT_3 ++ (tX4 yT_8)))) A s H locs (wX11 hT aT yT gT ++ (wX6 (aT 2) aT_2 yT_2 gT_2 ++ (wX9 (aT 3) aT_3 yT_3 (sDA (sLA gT_3 0 (vp_updL (gLA gT_3 0) v1.toNatClampNeg q_6)) 1 (vf_upd (gDA gT_3 1) v1.toNatClampNeg q_9)) ++ (wX4 hT_8 aT_8 yT_8 gT_8)))) := Hx_set X (set_r (n := 1) (i := 4) (j := 5) (wG_len rfl) rfl (set_r (n := 2) (i := 2) (j := 4) (wG_len rfl) rfl (set_l (by rw [wG_len (m := 13) rfl]; decide) (wG_sDA (i := 1) (k := 1) ndX9 rfl rfl)))) hP hD hS
  refine lv_aload_n hx hb dX11_set_104 rfl (lv_at hl 0 rfl) ?_
  refine va_get (D := D.1) (ci := 11) (v := .ref (aT 3)) (C := RX11) (T := TX11) (N := 14) hx hb hts wi_X11 hown X.1 X.2.1 0 rfl rfl 3 (by decide) (hts _ q2_150) (fun _ h9 => h9) (fl_get (by decide)) dX11_set_105 ?_
  refine va_getN (D := D.1) (ci := 9) (v := .ref (aT_3 2)) (C := RX9) (T := TX9) (N := 17) hx hb hts wi_X9 hown X.1 X.2.1 3 rfl rfl 2 (by decide) (X.2.2.2.2.2.1.use q1_61 rfl) (fun _ h9 => h9) (fl_get (by decide)) dX11_set_108 ?_
  refine lv_iload_n hx hb dX11_set_111 rfl (lv_at hl 1 rfl) ?_
  refine lv_aload_n hx hb dX11_set_112 rfl (lv_at hl 0 rfl) ?_
  refine va_get (D := D.1) (ci := 11) (v := .ref (aT 3)) (C := RX11) (T := TX11) (N := 14) hx hb hts wi_X11 hown X.1 X.2.1 0 rfl rfl 3 (by decide) (hts _ q2_150) (fun _ h9 => h9) (fl_get (by decide)) dX11_set_113 ?_
  refine va_getN (D := D.1) (ci := 9) (v := .ref (aT_3 0)) (C := RX9) (T := TX9) (N := 17) hx hb hts wi_X9 hown X.1 X.2.1 3 rfl rfl 0 (by decide) (X.2.2.2.2.2.1.use q1_55 rfl) (fun _ h9 => h9) (fl_get (by decide)) dX11_set_116 ?_
  refine lv_iload_n hx hb dX11_set_119 rfl (lv_at hl 1 rfl) ?_
  obtain ⟨h_12, hF⟩ := grd_some hF
  refine va_lald (D := D.1) (f := vp_updL (gLA gT_3 0) v1.toNatClampNeg q_6) hx hb X.1 X.2.1 4 1 rfl rfl (inB_ok h_12) dX11_set_120 ?_
  obtain ⟨h_13, hF⟩ := grd_some hF
  refine va_last (D := D.1) (f := gLA gT_3 2) hx hb X.1 X.2.1 X.2.2.1 X.2.2.2.1 6 3 rfl rfl (inB_ok h_13) dX11_set_121 (fun H locs hP hD hS => ?_)
  have X : Hx D (tX11 yT ++ (tX6 yT_2 ++ (tX9 yT_3 ++ (tX4 yT_8)))) A s H locs (wX11 hT aT yT gT ++ (wX6 (aT 2) aT_2 yT_2 gT_2 ++ (wX9 (aT 3) aT_3 yT_3 (sLA (sDA (sLA gT_3 0 (vp_updL (gLA gT_3 0) v1.toNatClampNeg q_6)) 1 (vf_upd (gDA gT_3 1) v1.toNatClampNeg q_9)) 2 (vp_updL (gLA gT_3 2) v1.toNatClampNeg ((vp_updL (gLA gT_3 0) v1.toNatClampNeg q_6) v1.toNatClampNeg))) ++ (wX4 hT_8 aT_8 yT_8 gT_8)))) := Hx_set X (set_r (n := 1) (i := 5) (j := 6) (wG_len rfl) rfl (set_r (n := 2) (i := 3) (j := 5) (wG_len rfl) rfl (set_l (by rw [wG_len (m := 13) rfl]; decide) (wG_sLA (i := 2) (k := 2) ndX9 rfl rfl)))) hP hD hS
  refine lv_aload_n hx hb dX11_set_122 rfl (lv_at hl 0 rfl) ?_
  refine va_get (D := D.1) (ci := 11) (v := .ref (aT 3)) (C := RX11) (T := TX11) (N := 14) hx hb hts wi_X11 hown X.1 X.2.1 0 rfl rfl 3 (by decide) (hts _ q2_150) (fun _ h9 => h9) (fl_get (by decide)) dX11_set_123 ?_
  refine va_getN (D := D.1) (ci := 9) (v := .ref (aT_3 3)) (C := RX9) (T := TX9) (N := 17) hx hb hts wi_X9 hown X.1 X.2.1 3 rfl rfl 3 (by decide) (X.2.2.2.2.2.1.use q1_64 rfl) (fun _ h9 => h9) (fl_get (by decide)) dX11_set_126 ?_
  refine lv_iload_n hx hb dX11_set_129 rfl (lv_at hl 1 rfl) ?_
  refine lv_aload_n hx hb dX11_set_130 rfl (lv_at hl 0 rfl) ?_
  refine va_get (D := D.1) (ci := 11) (v := .ref (aT 3)) (C := RX11) (T := TX11) (N := 14) hx hb hts wi_X11 hown X.1 X.2.1 0 rfl rfl 3 (by decide) (hts _ q2_150) (fun _ h9 => h9) (fl_get (by decide)) dX11_set_131 ?_
  refine va_getN (D := D.1) (ci := 9) (v := .ref (aT_3 1)) (C := RX9) (T := TX9) (N := 17) hx hb hts wi_X9 hown X.1 X.2.1 3 rfl rfl 1 (by decide) (X.2.2.2.2.2.1.use q1_58 rfl) (fun _ h9 => h9) (fl_get (by decide)) dX11_set_134 ?_
  refine lv_iload_n hx hb dX11_set_137 rfl (lv_at hl 1 rfl) ?_
  obtain ⟨h_14, hF⟩ := grd_some hF
  refine va_dald (D := D.1) (f := vf_upd (gDA gT_3 1) v1.toNatClampNeg q_9) hx hb X.1 X.2.1 5 2 rfl rfl (inB_ok h_14) dX11_set_138 ?_
  obtain ⟨h_15, hF⟩ := grd_some hF
  refine va_dast (D := D.1) (f := gDA gT_3 3) hx hb X.1 X.2.1 X.2.2.1 X.2.2.2.1 7 4 rfl rfl (inB_ok h_15) dX11_set_139 (fun H locs hP hD hS => ?_)
  have X : Hx D (tX11 yT ++ (tX6 yT_2 ++ (tX9 yT_3 ++ (tX4 yT_8)))) A s H locs (wX11 hT aT yT gT ++ (wX6 (aT 2) aT_2 yT_2 gT_2 ++ (wX9 (aT 3) aT_3 yT_3 (sDA (sLA (sDA (sLA gT_3 0 (vp_updL (gLA gT_3 0) v1.toNatClampNeg q_6)) 1 (vf_upd (gDA gT_3 1) v1.toNatClampNeg q_9)) 2 (vp_updL (gLA gT_3 2) v1.toNatClampNeg ((vp_updL (gLA gT_3 0) v1.toNatClampNeg q_6) v1.toNatClampNeg))) 3 (vf_upd (gDA gT_3 3) v1.toNatClampNeg ((vf_upd (gDA gT_3 1) v1.toNatClampNeg q_9) v1.toNatClampNeg))) ++ (wX4 hT_8 aT_8 yT_8 gT_8)))) := Hx_set X (set_r (n := 1) (i := 6) (j := 7) (wG_len rfl) rfl (set_r (n := 2) (i := 4) (j := 6) (wG_len rfl) rfl (set_l (by rw [wG_len (m := 13) rfl]; decide) (wG_sDA (i := 3) (k := 3) ndX9 rfl rfl)))) hP hD hS
  refine lv_iconst (v := (1 : Int32)) hx hb dX11_set_140 (by decide) ?_
  have hq := Option.some.inj hF
  subst hq
  exact rt_z (v := (1 : Int32)) C X (by decide) dX11_set_141
set_option maxHeartbeats 4000000 in
set_option maxRecDepth 100000 in
theorem k_X11_set_54 (l : Launch) (D : Dx) (hT : Nat) (aT : Nat → Nat) (yT : Nat → ClassId) (aT_2 : Nat → Nat) (yT_2 : Nat → ClassId) (aT_3 : Nat → Nat) (yT_3 : Nat → ClassId) (hT_8 : Nat) (aT_8 : Nat → Nat) (yT_8 : Nat → ClassId) : S_X11_set_54 l D hT aT yT aT_2 yT_2 aT_3 yT_3 hT_8 aT_8 yT_8 (b_X11_set_54 hT_8) := by
  intro p e s m args below meth c H locs A ls gT gT_2 gT_3 gT_8 v1 v2 v4 q C X hl hF
  obtain ⟨hx, hb, hr, hml, hown, hts, hlk⟩ := id C
  unfold b_X11_set_54 at hF
  refine lv_iload hx hb dX11_set_54 (lv_at hl 3 rfl) ?_
  refine lv_bipush (v := (6 : Int32)) hx hb dX11_set_56 (by decide) ?_
  refine lv_icmp_ne (tgt := 70) hx hb dX11_set_58 (by decide) (fun c => ?_) (fun c => ?_)
  · replace hF := iF c hF
    exact (k_X11_set_70 l D hT aT yT aT_2 yT_2 aT_3 yT_3 hT_8 aT_8 yT_8) C X (lv_sub hl [0, 1, 2, 3] rfl) hF
  · replace hF := iT c hF
    refine lv_lload_n hx hb dX11_set_61 rfl (lv_at hl 2 rfl) ?_
    obtain ⟨q_16, hc_17, hF⟩ := bnd_some hF
    refine cS_i (As := [.long v2]) (rest := []) C X (c_X6_isFiniteFloat l D  v2 q_16 hc_17 _) (va_cwS 1 hts (good_S q5_208 q5_209 q1_2 q5_210) rfl rfl rfl (by decide +kernel) ⟨Nat.le_of_ble_eq_true rfl, Nat.le_of_ble_eq_true rfl⟩) (eK X) eP (eD (A := A)) (eF X) hl.1 rfl rfl (Nat.le_of_ble_eq_true rfl) dX11_set_62 ⟨Nat.le_of_ble_eq_true rfl, Nat.le_of_ble_eq_true rfl⟩ (fun t H1 locs1 ht hB hk hS => ?_)
    have X := Hx_after_none X hk hS
    clear hk hS ht hB
    generalize H1 = H at X ⊢
    generalize locs1 = locs at X ⊢
    refine lv_if_ne (tgt := 70) hx hb dX11_set_65 (by decide) (fun c => ?_) (fun c => ?_)
    · replace hF := iF c hF
      exact (k_X11_set_70 l D hT aT yT aT_2 yT_2 aT_3 yT_3 hT_8 aT_8 yT_8) C X (lv_sub hl [0, 1, 2, 3] rfl) hF
    · replace hF := iT c hF
      refine lv_iconst (v := (0 : Int32)) hx hb dX11_set_68 (by decide) ?_
      have hq := Option.some.inj hF
      subst hq
      exact rt_z (v := (0 : Int32)) C X (by decide) dX11_set_69
set_option maxHeartbeats 4000000 in
set_option maxRecDepth 100000 in
theorem c_X11_set (l : Launch) (D : Dx) (hT : Nat) (aT : Nat → Nat) (yT : Nat → ClassId) (aT_2 : Nat → Nat) (yT_2 : Nat → ClassId) (aT_3 : Nat → Nat) (yT_3 : Nat → ClassId) (hT_8 : Nat) (aT_8 : Nat → Nat) (yT_8 : Nat → ClassId) (gT : Gs) (gT_2 : Gs) (gT_3 : Gs) (gT_8 : Gs) (x0 : Int32) (x1 : Int64) (q : Int32 × Gs) (hF : f_X11_set hT_8 gT gT_2 gT_3 gT_8 x0 x1 = some q) (sz : Nat) : Met l yX11_set (ws_ yX11_set cX11_set 5 (some .boolean)) R_X11_set (PC D (tX11 yT ++ (tX6 yT_2 ++ (tX9 yT_3 ++ (tX4 yT_8)))) [.ref hT, .int x0, .long x1] (wX11 hT aT yT gT ++ (wX6 (aT 2) aT_2 yT_2 gT_2 ++ (wX9 (aT 3) aT_3 yT_3 gT_3 ++ (wX4 hT_8 aT_8 yT_8 gT_8)))) sz) (QI D (va_A (wX11 hT aT yT gT ++ (wX6 (aT 2) aT_2 yT_2 gT_2 ++ (wX9 (aT 3) aT_3 yT_3 gT_3 ++ (wX4 hT_8 aT_8 yT_8 gT_8)))) sz) (wX11 hT aT yT gT ++ (wX6 (aT 2) aT_2 yT_2 gT_2 ++ (wX9 (aT 3) aT_3 yT_3 q.2 ++ (wX4 hT_8 aT_8 yT_8 gT_8)))) q.1) 0 0 (va_A (wX11 hT aT yT gT ++ (wX6 (aT 2) aT_2 yT_2 gT_2 ++ (wX9 (aT 3) aT_3 yT_3 gT_3 ++ (wX4 hT_8 aT_8 yT_8 gT_8)))) sz) := by
  refine Met.ofW (cc := cX11_set) (maxL := 5) (ret := (some .boolean)) (by decide) rfl ?_
  intro p e s m args below meth c s₁ B hml hv
  obtain ⟨rfl, hsz, hP, hK, hD, hN⟩ := hv
  subst hsz
  have C : Cx p s m _ meth c cX11_set (some .boolean) 5 RX11 lw_all := Cx_of B hml
  have X := Hx_start hP hK hD hN
  obtain ⟨hx, hb, hr, -, hown, hts, hlk⟩ := id C
  generalize va_A (wX11 hT aT yT gT ++ (wX6 (aT 2) aT_2 yT_2 gT_2 ++ (wX9 (aT 3) aT_3 yT_3 gT_3 ++ (wX4 hT_8 aT_8 yT_8 gT_8)))) s.heap.size = A at X ⊢
  have hl := lv_entry ([.ref hT, .int x0, .long x1]) (n := 5) (Nat.le_of_ble_eq_true rfl)
  rw [lg_entry_eq]
  generalize (lg_sl ([.ref hT, .int x0, .long x1]) ++ List.replicate (5 - (lg_sl ([.ref hT, .int x0, .long x1])).length) Slot.unset).toArray = ls at hl ⊢
  have hl : lv_has ls 5 [(0, .ref hT), (1, .int x0), (2, .long x1)] := hl
  unfold f_X11_set at hF
  refine lv_iload_n hx hb dX11_set_0 rfl (lv_at hl 1 rfl) ?_
  refine lv_if_lt (tgt := 27) hx hb dX11_set_1 (by decide) (fun c => ?_) (fun c => ?_)
  · replace hF := iT c hF
    refine lv_iconst (v := (0 : Int32)) hx hb dX11_set_27 (by decide) ?_
    have hq := Option.some.inj hF
    subst hq
    exact rt_z (v := (0 : Int32)) C X (by decide) dX11_set_28
  · replace hF := iF c hF
    refine lv_iload_n hx hb dX11_set_4 rfl (lv_at hl 1 rfl) ?_
    refine lv_aload_n hx hb dX11_set_5 rfl (lv_at hl 0 rfl) ?_
    obtain ⟨h_1, hF⟩ := grd_some hF
    refine va_get (D := D.1) (ci := 11) (v := .ref hT_8) (C := RX11) (T := TX11) (N := 14) hx hb hts wi_X11 hown X.1 X.2.1 0 rfl rfl 8 (by decide) (hts _ q2_155) (fun _ h9 => h9) ((fl_get (by decide)).trans (rf_eq h_1)) dX11_set_6 ?_
    refine va_getN (D := D.1) (ci := 4) (v := .int (gI gT_8 4)) (C := RX4) (T := TX4) (N := 14) hx hb hts wi_X4 hown X.1 X.2.1 16 rfl rfl 4 (by decide) (X.2.2.2.2.2.1.use q2_82 rfl) (fun _ h9 => h9) (fl_get (by decide)) dX11_set_9 ?_
    refine lv_icmp_ge (tgt := 27) hx hb dX11_set_12 (by decide) (fun c => ?_) (fun c => ?_)
    · replace hF := iT c hF
      refine lv_iconst (v := (0 : Int32)) hx hb dX11_set_27 (by decide) ?_
      have hq := Option.some.inj hF
      subst hq
      exact rt_z (v := (0 : Int32)) C X (by decide) dX11_set_28
    · replace hF := iF c hF
      refine lv_aload_n hx hb dX11_set_15 rfl (lv_at hl 0 rfl) ?_
      obtain ⟨h_2, hF⟩ := grd_some hF
      refine va_get (D := D.1) (ci := 11) (v := .ref hT_8) (C := RX11) (T := TX11) (N := 14) hx hb hts wi_X11 hown X.1 X.2.1 0 rfl rfl 8 (by decide) (hts _ q2_155) (fun _ h9 => h9) ((fl_get (by decide)).trans (rf_eq h_2)) dX11_set_16 ?_
      refine va_getN (D := D.1) (ci := 4) (v := .ref (aT_8 8)) (C := RX4) (T := TX4) (N := 14) hx hb hts wi_X4 hown X.1 X.2.1 16 rfl rfl 8 (by decide) (X.2.2.2.2.2.1.use q2_100 rfl) (fun _ h9 => h9) (fl_get (by decide)) dX11_set_19 ?_
      refine lv_iload_n hx hb dX11_set_22 rfl (lv_at hl 1 rfl) ?_
      obtain ⟨h_3, hF⟩ := grd_some hF
      refine va_zald (D := D.1) (f := gIA gT_8 8) hx hb X.1 X.2.1 21 17 rfl rfl (inB_ok h_3) dX11_set_23 ?_
      refine lv_if_ne (tgt := 29) hx hb dX11_set_24 (by decide) (fun c => ?_) (fun c => ?_)
      · replace hF := iF c hF
        refine lv_aload_n hx hb dX11_set_29 rfl (lv_at hl 0 rfl) ?_
        obtain ⟨h_4, hF⟩ := grd_some hF
        refine va_get (D := D.1) (ci := 11) (v := .ref hT_8) (C := RX11) (T := TX11) (N := 14) hx hb hts wi_X11 hown X.1 X.2.1 0 rfl rfl 8 (by decide) (hts _ q2_155) (fun _ h9 => h9) ((fl_get (by decide)).trans (rf_eq h_4)) dX11_set_30 ?_
        refine va_getN (D := D.1) (ci := 4) (v := .ref (aT_8 7)) (C := RX4) (T := TX4) (N := 14) hx hb hts wi_X4 hown X.1 X.2.1 16 rfl rfl 7 (by decide) (X.2.2.2.2.2.1.use q2_97 rfl) (fun _ h9 => h9) (fl_get (by decide)) dX11_set_33 ?_
        refine lv_iload_n hx hb dX11_set_36 rfl (lv_at hl 1 rfl) ?_
        obtain ⟨h_5, hF⟩ := grd_some hF
        refine va_iald (D := D.1) (f := gIA gT_8 7) hx hb X.1 X.2.1 20 16 rfl rfl (inB_ok h_5) dX11_set_37 ?_
        refine lv_istore (lv' := [(4, .int (gIA gT_8 7 x0.toNatClampNeg)), (0, .ref hT), (1, .int x0), (2, .long x1)]) hx hb dX11_set_38 hl (by decide) rfl (fun ls hl => ?_)
        refine lv_iload hx hb dX11_set_40 (lv_at hl 0 rfl) ?_
        refine lv_bipush (v := (7 : Int32)) hx hb dX11_set_42 (by decide) ?_
        refine lv_icmp_ne (tgt := 54) hx hb dX11_set_44 (by decide) (fun c => ?_) (fun c => ?_)
        · replace hF := iF c hF
          exact (k_X11_set_54 l D hT aT yT aT_2 yT_2 aT_3 yT_3 hT_8 aT_8 yT_8) C X (lv_sub hl [1, 2, 3, 0] rfl) hF
        · replace hF := iT c hF
          refine lv_lload_n hx hb dX11_set_47 rfl (lv_at hl 3 rfl) ?_
          obtain ⟨q_18, hc_19, hF⟩ := bnd_some hF
          refine cS_i (As := [.long x1]) (rest := []) C X (c_X6_isFinite l D  x1 q_18 hc_19 _) (va_cwS 1 hts (good_S q5_204 q5_205 q1_2 q5_206) rfl rfl rfl (by decide +kernel) ⟨Nat.le_of_ble_eq_true rfl, Nat.le_of_ble_eq_true rfl⟩) (eK X) eP (eD (A := A)) (eF X) hl.1 rfl rfl (Nat.le_of_ble_eq_true rfl) dX11_set_48 ⟨Nat.le_of_ble_eq_true rfl, Nat.le_of_ble_eq_true rfl⟩ (fun t H1 locs1 ht hB hk hS => ?_)
          have X := Hx_after_none X hk hS
          clear hk hS ht hB
          generalize H1 = H at X ⊢
          generalize locs1 = locs at X ⊢
          refine lv_if_eq (tgt := 68) hx hb dX11_set_51 (by decide) (fun c => ?_) (fun c => ?_)
          · replace hF := iT c hF
            refine lv_iconst (v := (0 : Int32)) hx hb dX11_set_68 (by decide) ?_
            have hq := Option.some.inj hF
            subst hq
            exact rt_z (v := (0 : Int32)) C X (by decide) dX11_set_69
          · replace hF := iF c hF
            exact (k_X11_set_54 l D hT aT yT aT_2 yT_2 aT_3 yT_3 hT_8 aT_8 yT_8) C X (lv_sub hl [1, 2, 3, 0] rfl) hF
      · replace hF := iT c hF
        refine lv_iconst (v := (0 : Int32)) hx hb dX11_set_27 (by decide) ?_
        have hq := Option.some.inj hF
        subst hq
        exact rt_z (v := (0 : Int32)) C X (by decide) dX11_set_28

/-! ### X11_step -/
theorem dX11_step_0 : decode cX11_step 0 = .ok (.lload_n 1, 1) := by decide +kernel
theorem dX11_step_1 : decode cX11_step 1 = .ok (.invokestatic 203, 3) := by decide +kernel
theorem dX11_step_4 : decode cX11_step 4 = .ok (.ifCond .ne 5, 3) := by decide +kernel
theorem dX11_step_7 : decode cX11_step 7 = .ok (.iconst 0, 1) := by decide +kernel
theorem dX11_step_8 : decode cX11_step 8 = .ok (.ireturn, 1) := by decide +kernel
theorem dX11_step_9 : decode cX11_step 9 = .ok (.aload_n 0, 1) := by decide +kernel
theorem dX11_step_10 : decode cX11_step 10 = .ok (.getfield 27, 3) := by decide +kernel
theorem dX11_step_13 : decode cX11_step 13 = .ok (.aload_n 0, 1) := by decide +kernel
theorem dX11_step_14 : decode cX11_step 14 = .ok (.getfield 20, 3) := by decide +kernel
theorem dX11_step_17 : decode cX11_step 17 = .ok (.bipush 7, 2) := by decide +kernel
theorem dX11_step_19 : decode cX11_step 19 = .ok (.lload_n 1, 1) := by decide +kernel
theorem dX11_step_20 : decode cX11_step 20 = .ok (.invokevirtual 214, 3) := by decide +kernel
theorem dX11_step_23 : decode cX11_step 23 = .ok (.putfield 85, 3) := by decide +kernel
theorem dX11_step_26 : decode cX11_step 26 = .ok (.iconst 1, 1) := by decide +kernel
theorem dX11_step_27 : decode cX11_step 27 = .ok (.ireturn, 1) := by decide +kernel
abbrev R_X11_step : Room := ({ frames := 3, cells := 0, slots := 0, locals := 116 } : Room)
def f_X11_step (gT : Gs) (gT_2 : Gs) (gT_3 : Gs) (x0 : Int64) : Option (Int32 × Gs) :=
  bnd (f_X6_isFinite x0) (fun q_1 => if q_1 = 0 then (some ((0 : Int32), gT_3)) else (bnd (f_X6_realOf gT_2 (7 : Int32) x0) (fun q_3 => some ((1 : Int32), (sD gT_3 15 q_3)))))
set_option maxHeartbeats 4000000 in
set_option maxRecDepth 100000 in
theorem c_X11_step (l : Launch) (D : Dx) (hT : Nat) (aT : Nat → Nat) (yT : Nat → ClassId) (aT_2 : Nat → Nat) (yT_2 : Nat → ClassId) (aT_3 : Nat → Nat) (yT_3 : Nat → ClassId) (gT : Gs) (gT_2 : Gs) (gT_3 : Gs) (x0 : Int64) (q : Int32 × Gs) (hF : f_X11_step gT gT_2 gT_3 x0 = some q) (sz : Nat) : Met l yX11_step (ws_ yX11_step cX11_step 3 (some .boolean)) R_X11_step (PC D (tX11 yT ++ (tX6 yT_2 ++ (tX9 yT_3))) [.ref hT, .long x0] (wX11 hT aT yT gT ++ (wX6 (aT 2) aT_2 yT_2 gT_2 ++ (wX9 (aT 3) aT_3 yT_3 gT_3))) sz) (QI D (va_A (wX11 hT aT yT gT ++ (wX6 (aT 2) aT_2 yT_2 gT_2 ++ (wX9 (aT 3) aT_3 yT_3 gT_3))) sz) (wX11 hT aT yT gT ++ (wX6 (aT 2) aT_2 yT_2 gT_2 ++ (wX9 (aT 3) aT_3 yT_3 q.2))) q.1) 0 0 (va_A (wX11 hT aT yT gT ++ (wX6 (aT 2) aT_2 yT_2 gT_2 ++ (wX9 (aT 3) aT_3 yT_3 gT_3))) sz) := by
  refine Met.ofW (cc := cX11_step) (maxL := 3) (ret := (some .boolean)) (by decide) rfl ?_
  intro p e s m args below meth c s₁ B hml hv
  obtain ⟨rfl, hsz, hP, hK, hD, hN⟩ := hv
  subst hsz
  have C : Cx p s m _ meth c cX11_step (some .boolean) 3 RX11 lw_all := Cx_of B hml
  have X := Hx_start hP hK hD hN
  obtain ⟨hx, hb, hr, -, hown, hts, hlk⟩ := id C
  generalize va_A (wX11 hT aT yT gT ++ (wX6 (aT 2) aT_2 yT_2 gT_2 ++ (wX9 (aT 3) aT_3 yT_3 gT_3))) s.heap.size = A at X ⊢
  have hl := lv_entry ([.ref hT, .long x0]) (n := 3) (Nat.le_of_ble_eq_true rfl)
  rw [lg_entry_eq]
  generalize (lg_sl ([.ref hT, .long x0]) ++ List.replicate (3 - (lg_sl ([.ref hT, .long x0])).length) Slot.unset).toArray = ls at hl ⊢
  have hl : lv_has ls 3 [(0, .ref hT), (1, .long x0)] := hl
  unfold f_X11_step at hF
  refine lv_lload_n hx hb dX11_step_0 rfl (lv_at hl 1 rfl) ?_
  obtain ⟨q_1, hc_2, hF⟩ := bnd_some hF
  refine cS_i (As := [.long x0]) (rest := []) C X (c_X6_isFinite l D  x0 q_1 hc_2 _) (va_cwS 1 hts (good_S q5_204 q5_205 q1_2 q5_206) rfl rfl rfl (by decide +kernel) ⟨Nat.le_of_ble_eq_true rfl, Nat.le_of_ble_eq_true rfl⟩) (eK X) eP (eD (A := A)) (eF X) hl.1 rfl rfl (Nat.le_of_ble_eq_true rfl) dX11_step_1 ⟨Nat.le_of_ble_eq_true rfl, Nat.le_of_ble_eq_true rfl⟩ (fun t H1 locs1 ht hB hk hS => ?_)
  have X := Hx_after_none X hk hS
  clear hk hS ht hB
  generalize H1 = H at X ⊢
  generalize locs1 = locs at X ⊢
  refine lv_if_ne (tgt := 9) hx hb dX11_step_4 (by decide) (fun c => ?_) (fun c => ?_)
  · replace hF := iF c hF
    refine lv_aload_n hx hb dX11_step_9 rfl (lv_at hl 0 rfl) ?_
    refine va_get (D := D.1) (ci := 11) (v := .ref (aT 3)) (C := RX11) (T := TX11) (N := 14) hx hb hts wi_X11 hown X.1 X.2.1 0 rfl rfl 3 (by decide) (hts _ q2_150) (fun _ h9 => h9) (fl_get (by decide)) dX11_step_10 ?_
    refine lv_aload_n hx hb dX11_step_13 rfl (lv_at hl 0 rfl) ?_
    refine va_get (D := D.1) (ci := 11) (v := .ref (aT 2)) (C := RX11) (T := TX11) (N := 14) hx hb hts wi_X11 hown X.1 X.2.1 0 rfl rfl 2 (by decide) (hts _ q2_149) (fun _ h9 => h9) (fl_get (by decide)) dX11_step_14 ?_
    refine lv_bipush (v := (7 : Int32)) hx hb dX11_step_17 (by decide) ?_
    refine lv_lload_n hx hb dX11_step_19 rfl (lv_at hl 1 rfl) ?_
    obtain ⟨q_3, hc_4, hF⟩ := bnd_some hF
    refine cV_d (As := [.int (7 : Int32), .long x0]) (rest := [.ref (aT 3)]) C X (c_X6_realOf l D (aT 2) aT_2 yT_2 gT_2 (7 : Int32) x0 q_3 hc_4 _) (cwV 2 hts (good_V q5_213 q5_214 q5_215 q1_2 q5_216) rfl rfl rfl (by decide +kernel) ⟨Nat.le_of_ble_eq_true rfl, Nat.le_of_ble_eq_true rfl⟩) (va_recv X.1 X.2.1 (ci := 6) (q0 := 1) rfl rfl) (X.1.sub (tys' := tX6 yT_2) [0] rfl) (X.2.1.sub (ws' := wX6 (aT 2) aT_2 yT_2 gT_2) [1, 2] rfl) (X.2.2.1.sub (ws' := wX6 (aT 2) aT_2 yT_2 gT_2) [1, 2] (by decide) rfl) (free_of (wC := wX6 (aT 2) aT_2 yT_2 gT_2) (isC := [1, 2]) X rfl) hl.1 rfl rfl (Nat.le_of_ble_eq_true rfl) dX11_step_20 ⟨Nat.le_of_ble_eq_true rfl, Nat.le_of_ble_eq_true rfl⟩ (fun t H1 locs1 ht hB hk hS => ?_)
    have X : Hx D (tX11 yT ++ (tX6 yT_2 ++ (tX9 yT_3))) A s H1 locs1 (wX11 hT aT yT gT ++ (wX6 (aT 2) aT_2 yT_2 gT_2 ++ (wX9 (aT 3) aT_3 yT_3 gT_3))) := Hx_after (isC := [1, 2]) (isR := [0, 3, 4, 5, 6, 7, 8, 9, 10, 11, 12, 13, 14, 15]) (pm := [0, 14, 15, 1, 2, 3, 4, 5, 6, 7, 8, 9, 10, 11, 12, 13]) (wr := wX11 hT aT yT gT ++ (wX9 (aT 3) aT_3 yT_3 gT_3)) X ⟨rfl, rfl, by decide, by decide, rfl, by decide⟩ ht hB hk hS
    clear hk hS ht hB
    generalize H1 = H at X ⊢
    generalize locs1 = locs at X ⊢
    refine va_putN (D := D.1) (ci := 9) (v := .double q_3) (ty := .double) (C := RX9) (T := TX9) (N := 17) hx hb hts wi_X9 tyX9 tyX9_ok nmX9 hown X.1 X.2.1 X.2.2.1 X.2.2.2.1 3 rfl rfl 15 (by decide) (X.2.2.2.2.2.1.use q1_89 rfl) (fun _ h9 => h9) rfl (by decide +kernel) rfl rfl (by rw [List.length_map, List.length_range]; decide) dX11_step_23 (fun H locs hP hD hS => ?_)
    have X : Hx D (tX11 yT ++ (tX6 yT_2 ++ (tX9 yT_3))) A s H locs (wX11 hT aT yT gT ++ (wX6 (aT 2) aT_2 yT_2 gT_2 ++ (wX9 (aT 3) aT_3 yT_3 (sD gT_3 15 q_3)))) := Hx_set X (set_r (n := 1) (i := 2) (j := 3) (wG_len rfl) rfl (set_r (n := 2) (i := 0) (j := 2) (wG_len rfl) rfl (wG_sD (k := 15) rfl))) hP hD hS
    refine lv_iconst (v := (1 : Int32)) hx hb dX11_step_26 (by decide) ?_
    have hq := Option.some.inj hF
    subst hq
    exact rt_z (v := (1 : Int32)) C X (by decide) dX11_step_27
  · replace hF := iT c hF
    refine lv_iconst (v := (0 : Int32)) hx hb dX11_step_7 (by decide) ?_
    have hq := Option.some.inj hF
    subst hq
    exact rt_z (v := (0 : Int32)) C X (by decide) dX11_step_8

/-! ### X11_tick -/
theorem dX11_tick_0 : decode cX11_tick 0 = .ok (.iload_n 1, 1) := by decide +kernel
theorem dX11_tick_1 : decode cX11_tick 1 = .ok (.ifCond .lt 10, 3) := by decide +kernel
theorem dX11_tick_4 : decode cX11_tick 4 = .ok (.iload_n 1, 1) := by decide +kernel
theorem dX11_tick_5 : decode cX11_tick 5 = .ok (.sipush 500, 3) := by decide +kernel
theorem dX11_tick_8 : decode cX11_tick 8 = .ok (.if_icmp .le 7, 3) := by decide +kernel
theorem dX11_tick_11 : decode cX11_tick 11 = .ok (.ldc2_w 224, 3) := by decide +kernel
theorem dX11_tick_14 : decode cX11_tick 14 = .ok (.lreturn, 1) := by decide +kernel
theorem dX11_tick_15 : decode cX11_tick 15 = .ok (.iconst 0, 1) := by decide +kernel
theorem dX11_tick_16 : decode cX11_tick 16 = .ok (.istore_n 2, 1) := by decide +kernel
theorem dX11_tick_17 : decode cX11_tick 17 = .ok (.iload_n 2, 1) := by decide +kernel
theorem dX11_tick_18 : decode cX11_tick 18 = .ok (.iload_n 1, 1) := by decide +kernel
theorem dX11_tick_19 : decode cX11_tick 19 = .ok (.if_icmp .ge 20, 3) := by decide +kernel
theorem dX11_tick_22 : decode cX11_tick 22 = .ok (.aload_n 0, 1) := by decide +kernel
theorem dX11_tick_23 : decode cX11_tick 23 = .ok (.getfield 40, 3) := by decide +kernel
theorem dX11_tick_26 : decode cX11_tick 26 = .ok (.aload_n 0, 1) := by decide +kernel
theorem dX11_tick_27 : decode cX11_tick 27 = .ok (.getfield 63, 3) := by decide +kernel
theorem dX11_tick_30 : decode cX11_tick 30 = .ok (.invokevirtual 226, 3) := by decide +kernel
theorem dX11_tick_33 : decode cX11_tick 33 = .ok (.iinc 2 1, 3) := by decide +kernel
theorem dX11_tick_36 : decode cX11_tick 36 = .ok (.goto (-19), 3) := by decide +kernel
theorem dX11_tick_39 : decode cX11_tick 39 = .ok (.aload_n 0, 1) := by decide +kernel
theorem dX11_tick_40 : decode cX11_tick 40 = .ok (.getfield 27, 3) := by decide +kernel
theorem dX11_tick_43 : decode cX11_tick 43 = .ok (.getfield 179, 3) := by decide +kernel
theorem dX11_tick_46 : decode cX11_tick 46 = .ok (.lreturn, 1) := by decide +kernel
abbrev R_X11_tick : Room := ({ frames := 7, cells := 0, slots := 0, locals := 241 } : Room)
def h_X11_tick_17 (n : Nat) (hT_8 : Nat) (rec : (Gs → Gs → Gs → Gs → Gs → Gs → Int32 → Int32 → Option (Int64 × Gs × Gs))) (gT : Gs) (gT_2 : Gs) (gT_3 : Gs) (gT_5 : Gs) (gT_8 : Gs) (gT_8_0 : Gs) (v1 : Int32) (v2 : Int32) : Option (Int64 × Gs × Gs) :=
  if v1 ≤ v2 then (some (gL gT_3 14, gT_3, gT_5)) else (grd (rEq (gR gT 8) hT_8) (bnd (f_X1_turn n gT_5 gT_2 gT_3 gT_8 gT_8_0) (fun q_2 => rec gT gT_2 q_2.2 q_2.1 gT_8 gT_8_0 v1 (v2 + (1 : Int32)))))
def L_X11_tick (n : Nat) (hT_8 : Nat) : Nat → (Gs → Gs → Gs → Gs → Gs → Gs → Int32 → Int32 → Option (Int64 × Gs × Gs))
  | 0 => ((fun _ _ _ _ _ _ _ _ => none))
  | k + 1 => (h_X11_tick_17 n hT_8 (L_X11_tick n hT_8 k))
def f_X11_tick (n : Nat) (hT_8 : Nat) (gT : Gs) (gT_2 : Gs) (gT_3 : Gs) (gT_5 : Gs) (gT_8 : Gs) (gT_8_0 : Gs) (x0 : Int32) : Option (Int64 × Gs × Gs) :=
  if x0 < 0 then (some ((-1 : Int64), gT_3, gT_5)) else (if x0 ≤ (500 : Int32) then ((L_X11_tick n hT_8 n) gT gT_2 gT_3 gT_5 gT_8 gT_8_0 x0 (0 : Int32)) else (some ((-1 : Int64), gT_3, gT_5)))
def S_X11_tick_17 (l : Launch) (D : Dx) (hT : Nat) (aT : Nat → Nat) (yT : Nat → ClassId) (aT_2 : Nat → Nat) (yT_2 : Nat → ClassId) (aT_3 : Nat → Nat) (yT_3 : Nat → ClassId) (aT_5 : Nat → Nat) (yT_5 : Nat → ClassId) (hT_8 : Nat) (aT_8 : Nat → Nat) (yT_8 : Nat → ClassId) (aT_8_0 : Nat → Nat) (yT_8_0 : Nat → ClassId) (fn : Gs → Gs → Gs → Gs → Gs → Gs → Int32 → Int32 → Option (Int64 × Gs × Gs)) : Prop :=
  ∀ {p : Program} {e : Env} {s : State} {m : MethodId} {args : Array Value} {below : List Frame} {meth : Method} {c : Code} {H : Heap} {locs : List Loc} {A : Nat → Prop} {ls : Array Slot} {gT : Gs} {gT_2 : Gs} {gT_3 : Gs} {gT_5 : Gs} {gT_8 : Gs} {gT_8_0 : Gs} {v1 : Int32} {v2 : Int32} {q : Int64 × Gs × Gs}, Cx p s m args meth c cX11_tick (some .long) 3 RX11 lw_all → Hx D (tX11 yT ++ (tX6 yT_2 ++ (tX9 yT_3 ++ (tX1 yT_5 ++ (tX4 yT_8 ++ (tX0 yT_8_0)))))) A s H locs (wX11 hT aT yT gT ++ (wX6 (aT 2) aT_2 yT_2 gT_2 ++ (wX9 (aT 3) aT_3 yT_3 gT_3 ++ (wX1 (aT 5) (va_up (va_up aT_5 0 (aT 2)) 1 (aT 3)) yT_5 gT_5 ++ (wX4 hT_8 aT_8 yT_8 gT_8 ++ (wX0 (aT_8 0) aT_8_0 yT_8_0 gT_8_0)))))) → lv_has ls 3 [(0, .ref hT), (1, .int v1), (2, .int v2)] → fn gT gT_2 gT_3 gT_5 gT_8 gT_8_0 v1 v2 = some q → W p l e R_X11_tick s m args below meth c H locs 0 0 (MQ below (QL D A (wX11 hT aT yT gT ++ (wX6 (aT 2) aT_2 yT_2 gT_2 ++ (wX9 (aT 3) aT_3 yT_3 q.2.1 ++ (wX1 (aT 5) (va_up (va_up aT_5 0 (aT 2)) 1 (aT 3)) yT_5 q.2.2 ++ (wX4 hT_8 aT_8 yT_8 gT_8 ++ (wX0 (aT_8 0) aT_8_0 yT_8_0 gT_8_0)))))) q.1) args s 0 0 A) (F0 m 17 ls [])
def SH_X11_tick (l : Launch) (D : Dx) (hT : Nat) (aT : Nat → Nat) (yT : Nat → ClassId) (aT_2 : Nat → Nat) (yT_2 : Nat → ClassId) (aT_3 : Nat → Nat) (yT_3 : Nat → ClassId) (aT_5 : Nat → Nat) (yT_5 : Nat → ClassId) (hT_8 : Nat) (aT_8 : Nat → Nat) (yT_8 : Nat → ClassId) (aT_8_0 : Nat → Nat) (yT_8_0 : Nat → ClassId) (rec : (Gs → Gs → Gs → Gs → Gs → Gs → Int32 → Int32 → Option (Int64 × Gs × Gs))) : Prop := S_X11_tick_17 l D hT aT yT aT_2 yT_2 aT_3 yT_3 aT_5 yT_5 hT_8 aT_8 yT_8 aT_8_0 yT_8_0 rec
set_option maxHeartbeats 4000000 in
set_option maxRecDepth 100000 in
theorem k_X11_tick_17 (l : Launch) (D : Dx) (hT : Nat) (aT : Nat → Nat) (yT : Nat → ClassId) (aT_2 : Nat → Nat) (yT_2 : Nat → ClassId) (aT_3 : Nat → Nat) (yT_3 : Nat → ClassId) (aT_5 : Nat → Nat) (yT_5 : Nat → ClassId) (hT_8 : Nat) (aT_8 : Nat → Nat) (yT_8 : Nat → ClassId) (aT_8_0 : Nat → Nat) (yT_8_0 : Nat → ClassId) (n : Nat) (rec : (Gs → Gs → Gs → Gs → Gs → Gs → Int32 → Int32 → Option (Int64 × Gs × Gs))) (IH : SH_X11_tick l D hT aT yT aT_2 yT_2 aT_3 yT_3 aT_5 yT_5 hT_8 aT_8 yT_8 aT_8_0 yT_8_0 rec) : S_X11_tick_17 l D hT aT yT aT_2 yT_2 aT_3 yT_3 aT_5 yT_5 hT_8 aT_8 yT_8 aT_8_0 yT_8_0 (h_X11_tick_17 n hT_8 rec) := by
  intro p e s m args below meth c H locs A ls gT gT_2 gT_3 gT_5 gT_8 gT_8_0 v1 v2 q C X hl hF
  obtain ⟨hx, hb, hr, hml, hown, hts, hlk⟩ := id C
  unfold h_X11_tick_17 at hF
  refine lv_iload_n hx hb dX11_tick_17 rfl (lv_at hl 2 rfl) ?_
  refine lv_iload_n hx hb dX11_tick_18 rfl (lv_at hl 1 rfl) ?_
  refine lv_icmp_ge (tgt := 39) hx hb dX11_tick_19 (by decide) (fun c => ?_) (fun c => ?_)
  · replace hF := iT c hF
    refine lv_aload_n hx hb dX11_tick_39 rfl (lv_at hl 0 rfl) ?_
    refine va_get (D := D.1) (ci := 11) (v := .ref (aT 3)) (C := RX11) (T := TX11) (N := 14) hx hb hts wi_X11 hown X.1 X.2.1 0 rfl rfl 3 (by decide) (hts _ q2_150) (fun _ h9 => h9) (fl_get (by decide)) dX11_tick_40 ?_
    refine va_getN (D := D.1) (ci := 9) (v := .long (gL gT_3 14)) (C := RX9) (T := TX9) (N := 17) hx hb hts wi_X9 hown X.1 X.2.1 3 rfl rfl 14 (by decide) (X.2.2.2.2.2.1.use q1_87 rfl) (fun _ h9 => h9) (fl_get (by decide)) dX11_tick_43 ?_
    have hq := Option.some.inj hF
    subst hq
    exact rt_l C X dX11_tick_46
  · replace hF := iF c hF
    refine lv_aload_n hx hb dX11_tick_22 rfl (lv_at hl 0 rfl) ?_
    refine va_get (D := D.1) (ci := 11) (v := .ref (aT 5)) (C := RX11) (T := TX11) (N := 14) hx hb hts wi_X11 hown X.1 X.2.1 0 rfl rfl 5 (by decide) (hts _ q2_152) (fun _ h9 => h9) (fl_get (by decide)) dX11_tick_23 ?_
    refine lv_aload_n hx hb dX11_tick_26 rfl (lv_at hl 0 rfl) ?_
    obtain ⟨h_1, hF⟩ := grd_some hF
    refine va_get (D := D.1) (ci := 11) (v := .ref hT_8) (C := RX11) (T := TX11) (N := 14) hx hb hts wi_X11 hown X.1 X.2.1 0 rfl rfl 8 (by decide) (hts _ q2_155) (fun _ h9 => h9) ((fl_get (by decide)).trans (rf_eq h_1)) dX11_tick_27 ?_
    obtain ⟨q_2, hc_3, hF⟩ := bnd_some hF
    refine cV_v (As := [.ref hT_8]) (rest := []) C X (c_X1_turn l D (aT 5) (va_up (va_up aT_5 0 (aT 2)) 1 (aT 3)) yT_5 aT_2 yT_2 aT_3 yT_3 hT_8 aT_8 yT_8 aT_8_0 yT_8_0 n gT_5 gT_2 gT_3 gT_8 gT_8_0 q_2 hc_3 _) (cwV 1 hts (good_V q5_232 q5_233 q5_234 q1_4 q5_235) rfl rfl rfl (by decide +kernel) ⟨Nat.le_of_ble_eq_true rfl, Nat.le_of_ble_eq_true rfl⟩) (va_recv X.1 X.2.1 (ci := 1) (q0 := 16) rfl rfl) (X.1.sub (tys' := tX1 yT_5 ++ (tX6 yT_2 ++ (tX9 yT_3 ++ (tX4 yT_8 ++ (tX0 yT_8_0))))) [13, 14, 0, 1, 2, 3, 4, 5, 6, 7, 8, 9, 10, 11, 12, 15, 16, 17, 18, 19, 20, 21, 22, 23, 24, 25, 26, 27, 28, 29, 30, 31, 32, 33, 34, 35, 36, 37, 38, 39] rfl) (X.2.1.sub (ws' := wX1 (aT 5) (va_up (va_up aT_5 0 (aT 2)) 1 (aT 3)) yT_5 gT_5 ++ (wX6 (aT 2) aT_2 yT_2 gT_2 ++ (wX9 (aT 3) aT_3 yT_3 gT_3 ++ (wX4 hT_8 aT_8 yT_8 gT_8 ++ (wX0 (aT_8 0) aT_8_0 yT_8_0 gT_8_0))))) [16, 17, 18, 1, 2, 3, 4, 5, 6, 7, 8, 9, 10, 11, 12, 13, 14, 15, 19, 20, 21, 22, 23, 24, 25, 26, 27, 28, 29, 30, 31, 32, 33, 34, 35, 36, 37, 38, 39, 40, 41, 42, 43, 44, 45] rfl) (X.2.2.1.sub (ws' := wX1 (aT 5) (va_up (va_up aT_5 0 (aT 2)) 1 (aT 3)) yT_5 gT_5 ++ (wX6 (aT 2) aT_2 yT_2 gT_2 ++ (wX9 (aT 3) aT_3 yT_3 gT_3 ++ (wX4 hT_8 aT_8 yT_8 gT_8 ++ (wX0 (aT_8 0) aT_8_0 yT_8_0 gT_8_0))))) [16, 17, 18, 1, 2, 3, 4, 5, 6, 7, 8, 9, 10, 11, 12, 13, 14, 15, 19, 20, 21, 22, 23, 24, 25, 26, 27, 28, 29, 30, 31, 32, 33, 34, 35, 36, 37, 38, 39, 40, 41, 42, 43, 44, 45] (by decide) rfl) (free_of (wC := wX1 (aT 5) (va_up (va_up aT_5 0 (aT 2)) 1 (aT 3)) yT_5 gT_5 ++ (wX6 (aT 2) aT_2 yT_2 gT_2 ++ (wX9 (aT 3) aT_3 yT_3 gT_3 ++ (wX4 hT_8 aT_8 yT_8 gT_8 ++ (wX0 (aT_8 0) aT_8_0 yT_8_0 gT_8_0))))) (isC := [16, 17, 18, 1, 2, 3, 4, 5, 6, 7, 8, 9, 10, 11, 12, 13, 14, 15, 19, 20, 21, 22, 23, 24, 25, 26, 27, 28, 29, 30, 31, 32, 33, 34, 35, 36, 37, 38, 39, 40, 41, 42, 43, 44, 45]) X rfl) hl.1 rfl rfl (Nat.le_of_ble_eq_true rfl) dX11_tick_30 ⟨Nat.le_of_ble_eq_true rfl, Nat.le_of_ble_eq_true rfl⟩ (fun t H1 locs1 ht hB hk hS => ?_)
    have X : Hx D (tX11 yT ++ (tX6 yT_2 ++ (tX9 yT_3 ++ (tX1 yT_5 ++ (tX4 yT_8 ++ (tX0 yT_8_0)))))) A s H1 locs1 (wX11 hT aT yT gT ++ (wX6 (aT 2) aT_2 yT_2 gT_2 ++ (wX9 (aT 3) aT_3 yT_3 q_2.2 ++ (wX1 (aT 5) (va_up (va_up aT_5 0 (aT 2)) 1 (aT 3)) yT_5 q_2.1 ++ (wX4 hT_8 aT_8 yT_8 gT_8 ++ (wX0 (aT_8 0) aT_8_0 yT_8_0 gT_8_0)))))) := Hx_after (isC := [16, 17, 18, 1, 2, 3, 4, 5, 6, 7, 8, 9, 10, 11, 12, 13, 14, 15, 19, 20, 21, 22, 23, 24, 25, 26, 27, 28, 29, 30, 31, 32, 33, 34, 35, 36, 37, 38, 39, 40, 41, 42, 43, 44, 45]) (isR := [0]) (pm := [0, 4, 5, 6, 7, 8, 9, 10, 11, 12, 13, 14, 15, 16, 17, 18, 1, 2, 3, 19, 20, 21, 22, 23, 24, 25, 26, 27, 28, 29, 30, 31, 32, 33, 34, 35, 36, 37, 38, 39, 40, 41, 42, 43, 44, 45]) (wr := wX11 hT aT yT gT) X ⟨rfl, rfl, by decide, by decide, rfl, by decide⟩ ht hB hk hS
    clear hk hS ht hB
    generalize H1 = H at X ⊢
    generalize locs1 = locs at X ⊢
    refine lv_iinc (v := v2 + (1 : Int32)) (lv' := [(2, .int (v2 + (1 : Int32))), (0, .ref hT), (1, .int v1)]) hx hb dX11_tick_33 hl (k := 2) rfl rfl (by decide) rfl (fun ls hl => ?_)
    refine lv_goto (tgt := 17) hx hb dX11_tick_36 (by decide) ?_
    exact IH C X (lv_sub hl [1, 2, 0] rfl) hF
theorem kL_X11_tick (l : Launch) (D : Dx) (hT : Nat) (aT : Nat → Nat) (yT : Nat → ClassId) (aT_2 : Nat → Nat) (yT_2 : Nat → ClassId) (aT_3 : Nat → Nat) (yT_3 : Nat → ClassId) (aT_5 : Nat → Nat) (yT_5 : Nat → ClassId) (hT_8 : Nat) (aT_8 : Nat → Nat) (yT_8 : Nat → ClassId) (aT_8_0 : Nat → Nat) (yT_8_0 : Nat → ClassId) (n : Nat) : ∀ k, SH_X11_tick l D hT aT yT aT_2 yT_2 aT_3 yT_3 aT_5 yT_5 hT_8 aT_8 yT_8 aT_8_0 yT_8_0 (L_X11_tick n hT_8 k)
  | 0 => fun _ _ _ h => by cases h
  | k + 1 => k_X11_tick_17 l D hT aT yT aT_2 yT_2 aT_3 yT_3 aT_5 yT_5 hT_8 aT_8 yT_8 aT_8_0 yT_8_0 n _ (kL_X11_tick l D hT aT yT aT_2 yT_2 aT_3 yT_3 aT_5 yT_5 hT_8 aT_8 yT_8 aT_8_0 yT_8_0 n k)
set_option maxHeartbeats 4000000 in
set_option maxRecDepth 100000 in
theorem c_X11_tick (l : Launch) (D : Dx) (hT : Nat) (aT : Nat → Nat) (yT : Nat → ClassId) (aT_2 : Nat → Nat) (yT_2 : Nat → ClassId) (aT_3 : Nat → Nat) (yT_3 : Nat → ClassId) (aT_5 : Nat → Nat) (yT_5 : Nat → ClassId) (hT_8 : Nat) (aT_8 : Nat → Nat) (yT_8 : Nat → ClassId) (aT_8_0 : Nat → Nat) (yT_8_0 : Nat → ClassId) (n : Nat) (gT : Gs) (gT_2 : Gs) (gT_3 : Gs) (gT_5 : Gs) (gT_8 : Gs) (gT_8_0 : Gs) (x0 : Int32) (q : Int64 × Gs × Gs) (hF : f_X11_tick n hT_8 gT gT_2 gT_3 gT_5 gT_8 gT_8_0 x0 = some q) (sz : Nat) : Met l yX11_tick (ws_ yX11_tick cX11_tick 3 (some .long)) R_X11_tick (PC D (tX11 yT ++ (tX6 yT_2 ++ (tX9 yT_3 ++ (tX1 yT_5 ++ (tX4 yT_8 ++ (tX0 yT_8_0)))))) [.ref hT, .int x0] (wX11 hT aT yT gT ++ (wX6 (aT 2) aT_2 yT_2 gT_2 ++ (wX9 (aT 3) aT_3 yT_3 gT_3 ++ (wX1 (aT 5) (va_up (va_up aT_5 0 (aT 2)) 1 (aT 3)) yT_5 gT_5 ++ (wX4 hT_8 aT_8 yT_8 gT_8 ++ (wX0 (aT_8 0) aT_8_0 yT_8_0 gT_8_0)))))) sz) (QL D (va_A (wX11 hT aT yT gT ++ (wX6 (aT 2) aT_2 yT_2 gT_2 ++ (wX9 (aT 3) aT_3 yT_3 gT_3 ++ (wX1 (aT 5) (va_up (va_up aT_5 0 (aT 2)) 1 (aT 3)) yT_5 gT_5 ++ (wX4 hT_8 aT_8 yT_8 gT_8 ++ (wX0 (aT_8 0) aT_8_0 yT_8_0 gT_8_0)))))) sz) (wX11 hT aT yT gT ++ (wX6 (aT 2) aT_2 yT_2 gT_2 ++ (wX9 (aT 3) aT_3 yT_3 q.2.1 ++ (wX1 (aT 5) (va_up (va_up aT_5 0 (aT 2)) 1 (aT 3)) yT_5 q.2.2 ++ (wX4 hT_8 aT_8 yT_8 gT_8 ++ (wX0 (aT_8 0) aT_8_0 yT_8_0 gT_8_0)))))) q.1) 0 0 (va_A (wX11 hT aT yT gT ++ (wX6 (aT 2) aT_2 yT_2 gT_2 ++ (wX9 (aT 3) aT_3 yT_3 gT_3 ++ (wX1 (aT 5) (va_up (va_up aT_5 0 (aT 2)) 1 (aT 3)) yT_5 gT_5 ++ (wX4 hT_8 aT_8 yT_8 gT_8 ++ (wX0 (aT_8 0) aT_8_0 yT_8_0 gT_8_0)))))) sz) := by
  refine Met.ofW (cc := cX11_tick) (maxL := 3) (ret := (some .long)) (by decide) rfl ?_
  intro p e s m args below meth c s₁ B hml hv
  obtain ⟨rfl, hsz, hP, hK, hD, hN⟩ := hv
  subst hsz
  have C : Cx p s m _ meth c cX11_tick (some .long) 3 RX11 lw_all := Cx_of B hml
  have X := Hx_start hP hK hD hN
  obtain ⟨hx, hb, hr, -, hown, hts, hlk⟩ := id C
  generalize va_A (wX11 hT aT yT gT ++ (wX6 (aT 2) aT_2 yT_2 gT_2 ++ (wX9 (aT 3) aT_3 yT_3 gT_3 ++ (wX1 (aT 5) (va_up (va_up aT_5 0 (aT 2)) 1 (aT 3)) yT_5 gT_5 ++ (wX4 hT_8 aT_8 yT_8 gT_8 ++ (wX0 (aT_8 0) aT_8_0 yT_8_0 gT_8_0)))))) s.heap.size = A at X ⊢
  have hl := lv_entry ([.ref hT, .int x0]) (n := 3) (Nat.le_of_ble_eq_true rfl)
  rw [lg_entry_eq]
  generalize (lg_sl ([.ref hT, .int x0]) ++ List.replicate (3 - (lg_sl ([.ref hT, .int x0])).length) Slot.unset).toArray = ls at hl ⊢
  have hl : lv_has ls 3 [(0, .ref hT), (1, .int x0)] := hl
  unfold f_X11_tick at hF
  refine lv_iload_n hx hb dX11_tick_0 rfl (lv_at hl 1 rfl) ?_
  refine lv_if_lt (tgt := 11) hx hb dX11_tick_1 (by decide) (fun c => ?_) (fun c => ?_)
  · replace hF := iT c hF
    refine lv_ldc2 hx hb hown (hts _ q5_231) dX11_tick_11 ?_
    have hq := Option.some.inj hF
    subst hq
    exact rt_l C X dX11_tick_14
  · replace hF := iF c hF
    refine lv_iload_n hx hb dX11_tick_4 rfl (lv_at hl 1 rfl) ?_
    refine lv_sipush (v := (500 : Int32)) hx hb dX11_tick_5 (by decide) ?_
    refine lv_icmp_le (tgt := 15) hx hb dX11_tick_8 (by decide) (fun c => ?_) (fun c => ?_)
    · replace hF := iT c hF
      refine lv_iconst (v := (0 : Int32)) hx hb dX11_tick_15 (by decide) ?_
      refine lv_istore_n (lv' := [(2, .int (0 : Int32)), (0, .ref hT), (1, .int x0)]) hx hb dX11_tick_16 rfl hl (by decide) rfl (fun ls hl => ?_)
      exact (kL_X11_tick l D hT aT yT aT_2 yT_2 aT_3 yT_3 aT_5 yT_5 hT_8 aT_8 yT_8 aT_8_0 yT_8_0 n n) C X (lv_sub hl [1, 2, 0] rfl) hF
    · replace hF := iF c hF
      refine lv_ldc2 hx hb hown (hts _ q5_231) dX11_tick_11 ?_
      have hq := Option.some.inj hF
      subst hq
      exact rt_l C X dX11_tick_14

/-! ### X11_strike -/
theorem dX11_strike_0 : decode cX11_strike 0 = .ok (.iload_n 1, 1) := by decide +kernel
theorem dX11_strike_1 : decode cX11_strike 1 = .ok (.ifCond .lt 14, 3) := by decide +kernel
theorem dX11_strike_4 : decode cX11_strike 4 = .ok (.iload_n 1, 1) := by decide +kernel
theorem dX11_strike_5 : decode cX11_strike 5 = .ok (.aload_n 0, 1) := by decide +kernel
theorem dX11_strike_6 : decode cX11_strike 6 = .ok (.getfield 27, 3) := by decide +kernel
theorem dX11_strike_9 : decode cX11_strike 9 = .ok (.getfield 136, 3) := by decide +kernel
theorem dX11_strike_12 : decode cX11_strike 12 = .ok (.if_icmp .lt 7, 3) := by decide +kernel
theorem dX11_strike_15 : decode cX11_strike 15 = .ok (.ldc2_w 224, 3) := by decide +kernel
theorem dX11_strike_18 : decode cX11_strike 18 = .ok (.lreturn, 1) := by decide +kernel
theorem dX11_strike_19 : decode cX11_strike 19 = .ok (.aload_n 0, 1) := by decide +kernel
theorem dX11_strike_20 : decode cX11_strike 20 = .ok (.getfield 27, 3) := by decide +kernel
theorem dX11_strike_23 : decode cX11_strike 23 = .ok (.getfield 229, 3) := by decide +kernel
theorem dX11_strike_26 : decode cX11_strike 26 = .ok (.iconst 1, 1) := by decide +kernel
theorem dX11_strike_27 : decode cX11_strike 27 = .ok (.isub, 1) := by decide +kernel
theorem dX11_strike_28 : decode cX11_strike 28 = .ok (.iload_n 1, 1) := by decide +kernel
theorem dX11_strike_29 : decode cX11_strike 29 = .ok (.isub, 1) := by decide +kernel
theorem dX11_strike_30 : decode cX11_strike 30 = .ok (.bipush 64, 2) := by decide +kernel
theorem dX11_strike_32 : decode cX11_strike 32 = .ok (.invokestatic 232, 3) := by decide +kernel
theorem dX11_strike_35 : decode cX11_strike 35 = .ok (.istore_n 3, 1) := by decide +kernel
theorem dX11_strike_36 : decode cX11_strike 36 = .ok (.iload_n 2, 1) := by decide +kernel
theorem dX11_strike_37 : decode cX11_strike 37 = .ok (.lookupswitch 48 #[(0, 27), (1, 37)], 27) := by decide +kernel
theorem dX11_strike_64 : decode cX11_strike 64 = .ok (.aload_n 0, 1) := by decide +kernel
theorem dX11_strike_65 : decode cX11_strike 65 = .ok (.getfield 27, 3) := by decide +kernel
theorem dX11_strike_68 : decode cX11_strike 68 = .ok (.getfield 237, 3) := by decide +kernel
theorem dX11_strike_71 : decode cX11_strike 71 = .ok (.iload_n 3, 1) := by decide +kernel
theorem dX11_strike_72 : decode cX11_strike 72 = .ok (.laload, 1) := by decide +kernel
theorem dX11_strike_73 : decode cX11_strike 73 = .ok (.lreturn, 1) := by decide +kernel
theorem dX11_strike_74 : decode cX11_strike 74 = .ok (.aload_n 0, 1) := by decide +kernel
theorem dX11_strike_75 : decode cX11_strike 75 = .ok (.getfield 27, 3) := by decide +kernel
theorem dX11_strike_78 : decode cX11_strike 78 = .ok (.getfield 240, 3) := by decide +kernel
theorem dX11_strike_81 : decode cX11_strike 81 = .ok (.iload_n 3, 1) := by decide +kernel
theorem dX11_strike_82 : decode cX11_strike 82 = .ok (.iaload, 1) := by decide +kernel
theorem dX11_strike_83 : decode cX11_strike 83 = .ok (.i2l, 1) := by decide +kernel
theorem dX11_strike_84 : decode cX11_strike 84 = .ok (.lreturn, 1) := by decide +kernel
theorem dX11_strike_85 : decode cX11_strike 85 = .ok (.ldc2_w 224, 3) := by decide +kernel
theorem dX11_strike_88 : decode cX11_strike 88 = .ok (.lreturn, 1) := by decide +kernel
abbrev R_X11_strike : Room := ({ frames := 1, cells := 0, slots := 0, locals := 22 } : Room)
def f_X11_strike (gT : Gs) (gT_3 : Gs) (x0 : Int32) (x1 : Int32) : Option (Int64) :=
  if x0 < 0 then (some (-1 : Int64)) else (if x0 < (gI gT_3 12) then (bnd (f_J9_floorMod_7cf53 (((gI gT_3 13) - (1 : Int32)) - x0) (64 : Int32)) (fun q_1 => if x1 = (0 : Int32) then (grd (inB q_1 64) (some (gLA gT_3 10 q_1.toNatClampNeg))) else (if x1 = (1 : Int32) then (grd (inB q_1 64) (some ((gIA gT_3 11 q_1.toNatClampNeg).toInt64))) else (some (-1 : Int64))))) else (some (-1 : Int64)))
set_option maxHeartbeats 4000000 in
set_option maxRecDepth 100000 in
theorem c_X11_strike (l : Launch) (D : Dx) (hT : Nat) (aT : Nat → Nat) (yT : Nat → ClassId) (aT_3 : Nat → Nat) (yT_3 : Nat → ClassId) (gT : Gs) (gT_3 : Gs) (x0 : Int32) (x1 : Int32) (q : Int64) (hF : f_X11_strike gT gT_3 x0 x1 = some q) (sz : Nat) : Met l yX11_strike (ws_ yX11_strike cX11_strike 4 (some .long)) R_X11_strike (PC D (tX11 yT ++ (tX9 yT_3)) [.ref hT, .int x0, .int x1] (wX11 hT aT yT gT ++ (wX9 (aT 3) aT_3 yT_3 gT_3)) sz) (QL D (va_A (wX11 hT aT yT gT ++ (wX9 (aT 3) aT_3 yT_3 gT_3)) sz) (wX11 hT aT yT gT ++ (wX9 (aT 3) aT_3 yT_3 gT_3)) q) 0 0 (va_A (wX11 hT aT yT gT ++ (wX9 (aT 3) aT_3 yT_3 gT_3)) sz) := by
  refine Met.ofW (cc := cX11_strike) (maxL := 4) (ret := (some .long)) (by decide) rfl ?_
  intro p e s m args below meth c s₁ B hml hv
  obtain ⟨rfl, hsz, hP, hK, hD, hN⟩ := hv
  subst hsz
  have C : Cx p s m _ meth c cX11_strike (some .long) 4 RX11 lw_all := Cx_of B hml
  have X := Hx_start hP hK hD hN
  obtain ⟨hx, hb, hr, -, hown, hts, hlk⟩ := id C
  generalize va_A (wX11 hT aT yT gT ++ (wX9 (aT 3) aT_3 yT_3 gT_3)) s.heap.size = A at X ⊢
  have hl := lv_entry ([.ref hT, .int x0, .int x1]) (n := 4) (Nat.le_of_ble_eq_true rfl)
  rw [lg_entry_eq]
  generalize (lg_sl ([.ref hT, .int x0, .int x1]) ++ List.replicate (4 - (lg_sl ([.ref hT, .int x0, .int x1])).length) Slot.unset).toArray = ls at hl ⊢
  have hl : lv_has ls 4 [(0, .ref hT), (1, .int x0), (2, .int x1)] := hl
  unfold f_X11_strike at hF
  refine lv_iload_n hx hb dX11_strike_0 rfl (lv_at hl 1 rfl) ?_
  refine lv_if_lt (tgt := 15) hx hb dX11_strike_1 (by decide) (fun c => ?_) (fun c => ?_)
  · replace hF := iT c hF
    refine lv_ldc2 hx hb hown (hts _ q5_231) dX11_strike_15 ?_
    have hq := Option.some.inj hF
    subst hq
    exact rt_l C X dX11_strike_18
  · replace hF := iF c hF
    refine lv_iload_n hx hb dX11_strike_4 rfl (lv_at hl 1 rfl) ?_
    refine lv_aload_n hx hb dX11_strike_5 rfl (lv_at hl 0 rfl) ?_
    refine va_get (D := D.1) (ci := 11) (v := .ref (aT 3)) (C := RX11) (T := TX11) (N := 14) hx hb hts wi_X11 hown X.1 X.2.1 0 rfl rfl 3 (by decide) (hts _ q2_150) (fun _ h9 => h9) (fl_get (by decide)) dX11_strike_6 ?_
    refine va_getN (D := D.1) (ci := 9) (v := .int (gI gT_3 12)) (C := RX9) (T := TX9) (N := 17) hx hb hts wi_X9 hown X.1 X.2.1 1 rfl rfl 12 (by decide) (X.2.2.2.2.2.1.use q1_82 rfl) (fun _ h9 => h9) (fl_get (by decide)) dX11_strike_9 ?_
    refine lv_icmp_lt (tgt := 19) hx hb dX11_strike_12 (by decide) (fun c => ?_) (fun c => ?_)
    · replace hF := iT c hF
      refine lv_aload_n hx hb dX11_strike_19 rfl (lv_at hl 0 rfl) ?_
      refine va_get (D := D.1) (ci := 11) (v := .ref (aT 3)) (C := RX11) (T := TX11) (N := 14) hx hb hts wi_X11 hown X.1 X.2.1 0 rfl rfl 3 (by decide) (hts _ q2_150) (fun _ h9 => h9) (fl_get (by decide)) dX11_strike_20 ?_
      refine va_getN (D := D.1) (ci := 9) (v := .int (gI gT_3 13)) (C := RX9) (T := TX9) (N := 17) hx hb hts wi_X9 hown X.1 X.2.1 1 rfl rfl 13 (by decide) (X.2.2.2.2.2.1.use q1_84 rfl) (fun _ h9 => h9) (fl_get (by decide)) dX11_strike_23 ?_
      refine lv_iconst (v := (1 : Int32)) hx hb dX11_strike_26 (by decide) ?_
      refine lv_isub hx hb dX11_strike_27 ?_
      refine lv_iload_n hx hb dX11_strike_28 rfl (lv_at hl 1 rfl) ?_
      refine lv_isub hx hb dX11_strike_29 ?_
      refine lv_bipush (v := (64 : Int32)) hx hb dX11_strike_30 (by decide) ?_
      obtain ⟨q_1, hc_2, hF⟩ := bnd_some hF
      refine cS_i (As := [.int (((gI gT_3 13) - (1 : Int32)) - x0), .int (64 : Int32)]) (rest := []) C X (c_J9_floorMod_7cf53 l D  (((gI gT_3 13) - (1 : Int32)) - x0) (64 : Int32) q_1 hc_2 _) (va_cwS 2 hts (good_S q6_11 q6_12 q1_14 q6_13) rfl rfl rfl (by decide +kernel) ⟨Nat.le_of_ble_eq_true rfl, Nat.le_of_ble_eq_true rfl⟩) (eK X) eP (eD (A := A)) (eF X) hl.1 rfl rfl (Nat.le_of_ble_eq_true rfl) dX11_strike_32 ⟨Nat.le_of_ble_eq_true rfl, Nat.le_of_ble_eq_true rfl⟩ (fun t H1 locs1 ht hB hk hS => ?_)
      have X := Hx_after_none X hk hS
      clear hk hS ht hB
      generalize H1 = H at X ⊢
      generalize locs1 = locs at X ⊢
      refine lv_istore_n (lv' := [(3, .int q_1), (0, .ref hT), (1, .int x0), (2, .int x1)]) hx hb dX11_strike_35 rfl hl (by decide) rfl (fun ls hl => ?_)
      refine lv_iload_n hx hb dX11_strike_36 rfl (lv_at hl 3 rfl) ?_
      by_cases c0 : x1 = (0 : Int32)
      · replace hF := iT c0 hF
        refine lv_lookup (tgt := 64) (off := 27) hx hb dX11_strike_37 (by decide) (by rw [c0]; rfl) (by decide) ?_
        refine lv_aload_n hx hb dX11_strike_64 rfl (lv_at hl 1 rfl) ?_
        refine va_get (D := D.1) (ci := 11) (v := .ref (aT 3)) (C := RX11) (T := TX11) (N := 14) hx hb hts wi_X11 hown X.1 X.2.1 0 rfl rfl 3 (by decide) (hts _ q2_150) (fun _ h9 => h9) (fl_get (by decide)) dX11_strike_65 ?_
        refine va_getN (D := D.1) (ci := 9) (v := .ref (aT_3 10)) (C := RX9) (T := TX9) (N := 17) hx hb hts wi_X9 hown X.1 X.2.1 1 rfl rfl 10 (by decide) (X.2.2.2.2.2.1.use q1_78 rfl) (fun _ h9 => h9) (fl_get (by decide)) dX11_strike_68 ?_
        refine lv_iload_n hx hb dX11_strike_71 rfl (lv_at hl 0 rfl) ?_
        obtain ⟨h_3, hF⟩ := grd_some hF
        refine va_lald (D := D.1) (f := gLA gT_3 10) hx hb X.1 X.2.1 12 10 rfl rfl (inB_ok h_3) dX11_strike_72 ?_
        have hq := Option.some.inj hF
        subst hq
        exact rt_l C X dX11_strike_73
      · replace hF := iF c0 hF
        by_cases c1 : x1 = (1 : Int32)
        · replace hF := iT c1 hF
          refine lv_lookup (tgt := 74) (off := 37) hx hb dX11_strike_37 (by decide) (by rw [c1]; rfl) (by decide) ?_
          refine lv_aload_n hx hb dX11_strike_74 rfl (lv_at hl 1 rfl) ?_
          refine va_get (D := D.1) (ci := 11) (v := .ref (aT 3)) (C := RX11) (T := TX11) (N := 14) hx hb hts wi_X11 hown X.1 X.2.1 0 rfl rfl 3 (by decide) (hts _ q2_150) (fun _ h9 => h9) (fl_get (by decide)) dX11_strike_75 ?_
          refine va_getN (D := D.1) (ci := 9) (v := .ref (aT_3 11)) (C := RX9) (T := TX9) (N := 17) hx hb hts wi_X9 hown X.1 X.2.1 1 rfl rfl 11 (by decide) (X.2.2.2.2.2.1.use q1_80 rfl) (fun _ h9 => h9) (fl_get (by decide)) dX11_strike_78 ?_
          refine lv_iload_n hx hb dX11_strike_81 rfl (lv_at hl 0 rfl) ?_
          obtain ⟨h_4, hF⟩ := grd_some hF
          refine va_iald (D := D.1) (f := gIA gT_3 11) hx hb X.1 X.2.1 13 11 rfl rfl (inB_ok h_4) dX11_strike_82 ?_
          refine lv_i2l hx hb dX11_strike_83 rfl ?_
          have hq := Option.some.inj hF
          subst hq
          exact rt_l C X dX11_strike_84
        · replace hF := iF c1 hF
          refine lv_lookup (tgt := 85) (off := 48) hx hb dX11_strike_37 (by decide) (lkc (tneS c0 (by decide)) (lkc (tneS c1 (by decide)) lkn)) (by decide) ?_
          refine lv_ldc2 hx hb hown (hts _ q5_231) dX11_strike_85 ?_
          have hq := Option.some.inj hF
          subst hq
          exact rt_l C X dX11_strike_88
    · replace hF := iF c hF
      refine lv_ldc2 hx hb hown (hts _ q5_231) dX11_strike_15 ?_
      have hq := Option.some.inj hF
      subst hq
      exact rt_l C X dX11_strike_18

/-! ### X11_dial -/
theorem dX11_dial_0 : decode cX11_dial 0 = .ok (.lload_n 1, 1) := by decide +kernel
theorem dX11_dial_1 : decode cX11_dial 1 = .ok (.invokestatic 203, 3) := by decide +kernel
theorem dX11_dial_4 : decode cX11_dial 4 = .ok (.ifCond .eq 13, 3) := by decide +kernel
theorem dX11_dial_7 : decode cX11_dial 7 = .ok (.iload_n 3, 1) := by decide +kernel
theorem dX11_dial_8 : decode cX11_dial 8 = .ok (.ifCond .lt 9, 3) := by decide +kernel
theorem dX11_dial_11 : decode cX11_dial 11 = .ok (.iload_n 3, 1) := by decide +kernel
theorem dX11_dial_12 : decode cX11_dial 12 = .ok (.bipush 18, 2) := by decide +kernel
theorem dX11_dial_14 : decode cX11_dial 14 = .ok (.if_icmp .le 5, 3) := by decide +kernel
theorem dX11_dial_17 : decode cX11_dial 17 = .ok (.iconst (-1), 1) := by decide +kernel
theorem dX11_dial_18 : decode cX11_dial 18 = .ok (.ireturn, 1) := by decide +kernel
theorem dX11_dial_19 : decode cX11_dial 19 = .ok (.aload_n 0, 1) := by decide +kernel
theorem dX11_dial_20 : decode cX11_dial 20 = .ok (.getfield 49, 3) := by decide +kernel
theorem dX11_dial_23 : decode cX11_dial 23 = .ok (.iconst 0, 1) := by decide +kernel
theorem dX11_dial_24 : decode cX11_dial 24 = .ok (.putfield 139, 3) := by decide +kernel
theorem dX11_dial_27 : decode cX11_dial 27 = .ok (.aload_n 0, 1) := by decide +kernel
theorem dX11_dial_28 : decode cX11_dial 28 = .ok (.getfield 49, 3) := by decide +kernel
theorem dX11_dial_31 : decode cX11_dial 31 = .ok (.aload_n 0, 1) := by decide +kernel
theorem dX11_dial_32 : decode cX11_dial 32 = .ok (.getfield 20, 3) := by decide +kernel
theorem dX11_dial_35 : decode cX11_dial 35 = .ok (.bipush 7, 2) := by decide +kernel
theorem dX11_dial_37 : decode cX11_dial 37 = .ok (.lload_n 1, 1) := by decide +kernel
theorem dX11_dial_38 : decode cX11_dial 38 = .ok (.invokevirtual 214, 3) := by decide +kernel
theorem dX11_dial_41 : decode cX11_dial 41 = .ok (.iload_n 3, 1) := by decide +kernel
theorem dX11_dial_42 : decode cX11_dial 42 = .ok (.invokevirtual 267, 3) := by decide +kernel
theorem dX11_dial_45 : decode cX11_dial 45 = .ok (.aload_n 0, 1) := by decide +kernel
theorem dX11_dial_46 : decode cX11_dial 46 = .ok (.getfield 49, 3) := by decide +kernel
theorem dX11_dial_49 : decode cX11_dial 49 = .ok (.getfield 139, 3) := by decide +kernel
theorem dX11_dial_52 : decode cX11_dial 52 = .ok (.ireturn, 1) := by decide +kernel
abbrev R_X11_dial : Room := ({ frames := 3, cells := 0, slots := 0, locals := 129 } : Room)
def f_X11_dial (n : Nat) (gT : Gs) (gT_2 : Gs) (gT_6 : Gs) (x0 : Int64) (x1 : Int32) : Option (Int32 × Gs) :=
  bnd (f_X6_isFinite x0) (fun q_1 => if q_1 = 0 then (some ((-1 : Int32), gT_6)) else (if x1 < 0 then (some ((-1 : Int32), gT_6)) else (if x1 ≤ (18 : Int32) then (bnd (f_X6_realOf gT_2 (7 : Int32) x0) (fun q_3 => bnd (f_X3_putReal n (sI gT_6 2 (0 : Int32)) gT_2 q_3 x1) (fun q_5 => some (gI q_5 2, q_5)))) else (some ((-1 : Int32), gT_6)))))
set_option maxHeartbeats 4000000 in
set_option maxRecDepth 100000 in
theorem c_X11_dial (l : Launch) (D : Dx) (hT : Nat) (aT : Nat → Nat) (yT : Nat → ClassId) (aT_2 : Nat → Nat) (yT_2 : Nat → ClassId) (aT_6 : Nat → Nat) (yT_6 : Nat → ClassId) (n : Nat) (gT : Gs) (gT_2 : Gs) (gT_6 : Gs) (x0 : Int64) (x1 : Int32) (q : Int32 × Gs) (hF : f_X11_dial n gT gT_2 gT_6 x0 x1 = some q) (sz : Nat) : Met l yX11_dial (ws_ yX11_dial cX11_dial 4 (some .int)) R_X11_dial (PC D (tX11 yT ++ (tX6 yT_2 ++ (tX3 yT_6))) [.ref hT, .long x0, .int x1] (wX11 hT aT yT gT ++ (wX6 (aT 2) aT_2 yT_2 gT_2 ++ (wX3 (aT 6) (va_up aT_6 0 (aT 2)) yT_6 gT_6))) sz) (QI D (va_A (wX11 hT aT yT gT ++ (wX6 (aT 2) aT_2 yT_2 gT_2 ++ (wX3 (aT 6) (va_up aT_6 0 (aT 2)) yT_6 gT_6))) sz) (wX11 hT aT yT gT ++ (wX6 (aT 2) aT_2 yT_2 gT_2 ++ (wX3 (aT 6) (va_up aT_6 0 (aT 2)) yT_6 q.2))) q.1) 0 0 (va_A (wX11 hT aT yT gT ++ (wX6 (aT 2) aT_2 yT_2 gT_2 ++ (wX3 (aT 6) (va_up aT_6 0 (aT 2)) yT_6 gT_6))) sz) := by
  refine Met.ofW (cc := cX11_dial) (maxL := 4) (ret := (some .int)) (by decide) rfl ?_
  intro p e s m args below meth c s₁ B hml hv
  obtain ⟨rfl, hsz, hP, hK, hD, hN⟩ := hv
  subst hsz
  have C : Cx p s m _ meth c cX11_dial (some .int) 4 RX11 lw_all := Cx_of B hml
  have X := Hx_start hP hK hD hN
  obtain ⟨hx, hb, hr, -, hown, hts, hlk⟩ := id C
  generalize va_A (wX11 hT aT yT gT ++ (wX6 (aT 2) aT_2 yT_2 gT_2 ++ (wX3 (aT 6) (va_up aT_6 0 (aT 2)) yT_6 gT_6))) s.heap.size = A at X ⊢
  have hl := lv_entry ([.ref hT, .long x0, .int x1]) (n := 4) (Nat.le_of_ble_eq_true rfl)
  rw [lg_entry_eq]
  generalize (lg_sl ([.ref hT, .long x0, .int x1]) ++ List.replicate (4 - (lg_sl ([.ref hT, .long x0, .int x1])).length) Slot.unset).toArray = ls at hl ⊢
  have hl : lv_has ls 4 [(0, .ref hT), (1, .long x0), (3, .int x1)] := hl
  unfold f_X11_dial at hF
  refine lv_lload_n hx hb dX11_dial_0 rfl (lv_at hl 1 rfl) ?_
  obtain ⟨q_1, hc_2, hF⟩ := bnd_some hF
  refine cS_i (As := [.long x0]) (rest := []) C X (c_X6_isFinite l D  x0 q_1 hc_2 _) (va_cwS 1 hts (good_S q5_204 q5_205 q1_2 q5_206) rfl rfl rfl (by decide +kernel) ⟨Nat.le_of_ble_eq_true rfl, Nat.le_of_ble_eq_true rfl⟩) (eK X) eP (eD (A := A)) (eF X) hl.1 rfl rfl (Nat.le_of_ble_eq_true rfl) dX11_dial_1 ⟨Nat.le_of_ble_eq_true rfl, Nat.le_of_ble_eq_true rfl⟩ (fun t H1 locs1 ht hB hk hS => ?_)
  have X := Hx_after_none X hk hS
  clear hk hS ht hB
  generalize H1 = H at X ⊢
  generalize locs1 = locs at X ⊢
  refine lv_if_eq (tgt := 17) hx hb dX11_dial_4 (by decide) (fun c => ?_) (fun c => ?_)
  · replace hF := iT c hF
    refine lv_iconst (v := (-1 : Int32)) hx hb dX11_dial_17 (by decide) ?_
    have hq := Option.some.inj hF
    subst hq
    exact rt_i C X dX11_dial_18
  · replace hF := iF c hF
    refine lv_iload_n hx hb dX11_dial_7 rfl (lv_at hl 2 rfl) ?_
    refine lv_if_lt (tgt := 17) hx hb dX11_dial_8 (by decide) (fun c => ?_) (fun c => ?_)
    · replace hF := iT c hF
      refine lv_iconst (v := (-1 : Int32)) hx hb dX11_dial_17 (by decide) ?_
      have hq := Option.some.inj hF
      subst hq
      exact rt_i C X dX11_dial_18
    · replace hF := iF c hF
      refine lv_iload_n hx hb dX11_dial_11 rfl (lv_at hl 2 rfl) ?_
      refine lv_bipush (v := (18 : Int32)) hx hb dX11_dial_12 (by decide) ?_
      refine lv_icmp_le (tgt := 19) hx hb dX11_dial_14 (by decide) (fun c => ?_) (fun c => ?_)
      · replace hF := iT c hF
        refine lv_aload_n hx hb dX11_dial_19 rfl (lv_at hl 0 rfl) ?_
        refine va_get (D := D.1) (ci := 11) (v := .ref (aT 6)) (C := RX11) (T := TX11) (N := 14) hx hb hts wi_X11 hown X.1 X.2.1 0 rfl rfl 6 (by decide) (hts _ q2_153) (fun _ h9 => h9) (fl_get (by decide)) dX11_dial_20 ?_
        refine lv_iconst (v := (0 : Int32)) hx hb dX11_dial_23 (by decide) ?_
        refine va_putN (D := D.1) (ci := 3) (v := .int (0 : Int32)) (ty := .int) (C := RX3) (T := TX3) (N := 3) hx hb hts wi_X3 tyX3 tyX3_ok nmX3 hown X.1 X.2.1 X.2.2.1 X.2.2.2.1 3 rfl rfl 2 (by decide) (X.2.2.2.2.2.1.use q1_172 rfl) (fun _ h9 => h9) rfl (by decide +kernel) rfl rfl (by rw [List.length_map, List.length_range]; decide) dX11_dial_24 (fun H locs hP hD hS => ?_)
        have X : Hx D (tX11 yT ++ (tX6 yT_2 ++ (tX3 yT_6))) A s H locs (wX11 hT aT yT gT ++ (wX6 (aT 2) aT_2 yT_2 gT_2 ++ (wX3 (aT 6) (va_up aT_6 0 (aT 2)) yT_6 (sI gT_6 2 (0 : Int32))))) := Hx_set X (set_r (n := 1) (i := 2) (j := 3) (wG_len rfl) rfl (set_r (n := 2) (i := 0) (j := 2) (wG_len rfl) rfl (wG_sI (k := 2) rfl))) hP hD hS
        refine lv_aload_n hx hb dX11_dial_27 rfl (lv_at hl 0 rfl) ?_
        refine va_get (D := D.1) (ci := 11) (v := .ref (aT 6)) (C := RX11) (T := TX11) (N := 14) hx hb hts wi_X11 hown X.1 X.2.1 0 rfl rfl 6 (by decide) (hts _ q2_153) (fun _ h9 => h9) (fl_get (by decide)) dX11_dial_28 ?_
        refine lv_aload_n hx hb dX11_dial_31 rfl (lv_at hl 0 rfl) ?_
        refine va_get (D := D.1) (ci := 11) (v := .ref (aT 2)) (C := RX11) (T := TX11) (N := 14) hx hb hts wi_X11 hown X.1 X.2.1 0 rfl rfl 2 (by decide) (hts _ q2_149) (fun _ h9 => h9) (fl_get (by decide)) dX11_dial_32 ?_
        refine lv_bipush (v := (7 : Int32)) hx hb dX11_dial_35 (by decide) ?_
        refine lv_lload_n hx hb dX11_dial_37 rfl (lv_at hl 1 rfl) ?_
        obtain ⟨q_3, hc_4, hF⟩ := bnd_some hF
        refine cV_d (As := [.int (7 : Int32), .long x0]) (rest := [.ref (aT 6)]) C X (c_X6_realOf l D (aT 2) aT_2 yT_2 gT_2 (7 : Int32) x0 q_3 hc_4 _) (cwV 2 hts (good_V q5_213 q5_214 q5_215 q1_2 q5_216) rfl rfl rfl (by decide +kernel) ⟨Nat.le_of_ble_eq_true rfl, Nat.le_of_ble_eq_true rfl⟩) (va_recv X.1 X.2.1 (ci := 6) (q0 := 1) rfl rfl) (X.1.sub (tys' := tX6 yT_2) [0] rfl) (X.2.1.sub (ws' := wX6 (aT 2) aT_2 yT_2 gT_2) [1, 2] rfl) (X.2.2.1.sub (ws' := wX6 (aT 2) aT_2 yT_2 gT_2) [1, 2] (by decide) rfl) (free_of (wC := wX6 (aT 2) aT_2 yT_2 gT_2) (isC := [1, 2]) X rfl) hl.1 rfl rfl (Nat.le_of_ble_eq_true rfl) dX11_dial_38 ⟨Nat.le_of_ble_eq_true rfl, Nat.le_of_ble_eq_true rfl⟩ (fun t H1 locs1 ht hB hk hS => ?_)
        have X : Hx D (tX11 yT ++ (tX6 yT_2 ++ (tX3 yT_6))) A s H1 locs1 (wX11 hT aT yT gT ++ (wX6 (aT 2) aT_2 yT_2 gT_2 ++ (wX3 (aT 6) (va_up aT_6 0 (aT 2)) yT_6 (sI gT_6 2 (0 : Int32))))) := Hx_after (isC := [1, 2]) (isR := [0, 3, 4]) (pm := [0, 3, 4, 1, 2]) (wr := wX11 hT aT yT gT ++ (wX3 (aT 6) (va_up aT_6 0 (aT 2)) yT_6 (sI gT_6 2 (0 : Int32)))) X ⟨rfl, rfl, by decide, by decide, rfl, by decide⟩ ht hB hk hS
        clear hk hS ht hB
        generalize H1 = H at X ⊢
        generalize locs1 = locs at X ⊢
        refine lv_iload_n hx hb dX11_dial_41 rfl (lv_at hl 2 rfl) ?_
        obtain ⟨q_5, hc_6, hF⟩ := bnd_some hF
        refine cV_v (As := [.double q_3, .int x1]) (rest := []) C X (c_X3_putReal l D (aT 6) (va_up aT_6 0 (aT 2)) yT_6 aT_2 yT_2 n (sI gT_6 2 (0 : Int32)) gT_2 q_3 x1 q_5 hc_6 _) (cwV 2 hts (good_V q6_46 q6_47 q6_48 q1_5 q6_49) rfl rfl rfl (by decide +kernel) ⟨Nat.le_of_ble_eq_true rfl, Nat.le_of_ble_eq_true rfl⟩) (va_recv X.1 X.2.1 (ci := 3) (q0 := 3) rfl rfl) (X.1.sub (tys' := tX3 yT_6 ++ (tX6 yT_2)) [1, 0] rfl) (X.2.1.sub (ws' := wX3 (aT 6) (va_up aT_6 0 (aT 2)) yT_6 (sI gT_6 2 (0 : Int32)) ++ (wX6 (aT 2) aT_2 yT_2 gT_2)) [3, 4, 1, 2] rfl) (X.2.2.1.sub (ws' := wX3 (aT 6) (va_up aT_6 0 (aT 2)) yT_6 (sI gT_6 2 (0 : Int32)) ++ (wX6 (aT 2) aT_2 yT_2 gT_2)) [3, 4, 1, 2] (by decide) rfl) (free_of (wC := wX3 (aT 6) (va_up aT_6 0 (aT 2)) yT_6 (sI gT_6 2 (0 : Int32)) ++ (wX6 (aT 2) aT_2 yT_2 gT_2)) (isC := [3, 4, 1, 2]) X rfl) hl.1 rfl rfl (Nat.le_of_ble_eq_true rfl) dX11_dial_42 ⟨Nat.le_of_ble_eq_true rfl, Nat.le_of_ble_eq_true rfl⟩ (fun t H1 locs1 ht hB hk hS => ?_)
        have X : Hx D (tX11 yT ++ (tX6 yT_2 ++ (tX3 yT_6))) A s H1 locs1 (wX11 hT aT yT gT ++ (wX6 (aT 2) aT_2 yT_2 gT_2 ++ (wX3 (aT 6) (va_up aT_6 0 (aT 2)) yT_6 q_5))) := Hx_after (isC := [3, 4, 1, 2]) (isR := [0]) (pm := [0, 3, 4, 1, 2]) (wr := wX11 hT aT yT gT) X ⟨rfl, rfl, by decide, by decide, rfl, by decide⟩ ht hB hk hS
        clear hk hS ht hB
        generalize H1 = H at X ⊢
        generalize locs1 = locs at X ⊢
        refine lv_aload_n hx hb dX11_dial_45 rfl (lv_at hl 0 rfl) ?_
        refine va_get (D := D.1) (ci := 11) (v := .ref (aT 6)) (C := RX11) (T := TX11) (N := 14) hx hb hts wi_X11 hown X.1 X.2.1 0 rfl rfl 6 (by decide) (hts _ q2_153) (fun _ h9 => h9) (fl_get (by decide)) dX11_dial_46 ?_
        refine va_getN (D := D.1) (ci := 3) (v := .int (gI q_5 2)) (C := RX3) (T := TX3) (N := 3) hx hb hts wi_X3 hown X.1 X.2.1 3 rfl rfl 2 (by decide) (X.2.2.2.2.2.1.use q1_172 rfl) (fun _ h9 => h9) (fl_get (by decide)) dX11_dial_49 ?_
        have hq := Option.some.inj hF
        subst hq
        exact rt_i C X dX11_dial_52
      · replace hF := iF c hF
        refine lv_iconst (v := (-1 : Int32)) hx hb dX11_dial_17 (by decide) ?_
        have hq := Option.some.inj hF
        subst hq
        exact rt_i C X dX11_dial_18

/-! ### X11_clock -/
theorem dX11_clock_0 : decode cX11_clock 0 = .ok (.lload_n 1, 1) := by decide +kernel
theorem dX11_clock_1 : decode cX11_clock 1 = .ok (.invokestatic 203, 3) := by decide +kernel
theorem dX11_clock_4 : decode cX11_clock 4 = .ok (.ifCond .ne 5, 3) := by decide +kernel
theorem dX11_clock_7 : decode cX11_clock 7 = .ok (.iconst (-1), 1) := by decide +kernel
theorem dX11_clock_8 : decode cX11_clock 8 = .ok (.ireturn, 1) := by decide +kernel
theorem dX11_clock_9 : decode cX11_clock 9 = .ok (.aload_n 0, 1) := by decide +kernel
theorem dX11_clock_10 : decode cX11_clock 10 = .ok (.getfield 20, 3) := by decide +kernel
theorem dX11_clock_13 : decode cX11_clock 13 = .ok (.bipush 7, 2) := by decide +kernel
theorem dX11_clock_15 : decode cX11_clock 15 = .ok (.lload_n 1, 1) := by decide +kernel
theorem dX11_clock_16 : decode cX11_clock 16 = .ok (.invokevirtual 214, 3) := by decide +kernel
theorem dX11_clock_19 : decode cX11_clock 19 = .ok (.dstore_n 3, 1) := by decide +kernel
theorem dX11_clock_20 : decode cX11_clock 20 = .ok (.aload_n 0, 1) := by decide +kernel
theorem dX11_clock_21 : decode cX11_clock 21 = .ok (.getfield 20, 3) := by decide +kernel
theorem dX11_clock_24 : decode cX11_clock 24 = .ok (.dload_n 3, 1) := by decide +kernel
theorem dX11_clock_25 : decode cX11_clock 25 = .ok (.ldc2_w 271, 3) := by decide +kernel
theorem dX11_clock_28 : decode cX11_clock 28 = .ok (.invokevirtual 273, 3) := by decide +kernel
theorem dX11_clock_31 : decode cX11_clock 31 = .ok (.dstore 5, 2) := by decide +kernel
theorem dX11_clock_33 : decode cX11_clock 33 = .ok (.dload 5, 2) := by decide +kernel
theorem dX11_clock_35 : decode cX11_clock 35 = .ok (.dconst 0, 1) := by decide +kernel
theorem dX11_clock_36 : decode cX11_clock 36 = .ok (.dcmp .g, 1) := by decide +kernel
theorem dX11_clock_37 : decode cX11_clock 37 = .ok (.ifCond .ge 11, 3) := by decide +kernel
theorem dX11_clock_40 : decode cX11_clock 40 = .ok (.dload 5, 2) := by decide +kernel
theorem dX11_clock_42 : decode cX11_clock 42 = .ok (.ldc2_w 271, 3) := by decide +kernel
theorem dX11_clock_45 : decode cX11_clock 45 = .ok (.dadd, 1) := by decide +kernel
theorem dX11_clock_46 : decode cX11_clock 46 = .ok (.dstore 5, 2) := by decide +kernel
theorem dX11_clock_48 : decode cX11_clock 48 = .ok (.dload 5, 2) := by decide +kernel
theorem dX11_clock_50 : decode cX11_clock 50 = .ok (.ldc2_w 271, 3) := by decide +kernel
theorem dX11_clock_53 : decode cX11_clock 53 = .ok (.dcmp .l, 1) := by decide +kernel
theorem dX11_clock_54 : decode cX11_clock 54 = .ok (.ifCond .ne 7, 3) := by decide +kernel
theorem dX11_clock_57 : decode cX11_clock 57 = .ok (.iconst 0, 1) := by decide +kernel
theorem dX11_clock_58 : decode cX11_clock 58 = .ok (.goto 6, 3) := by decide +kernel
theorem dX11_clock_61 : decode cX11_clock 61 = .ok (.dload 5, 2) := by decide +kernel
theorem dX11_clock_63 : decode cX11_clock 63 = .ok (.d2i, 1) := by decide +kernel
theorem dX11_clock_64 : decode cX11_clock 64 = .ok (.istore 7, 2) := by decide +kernel
theorem dX11_clock_66 : decode cX11_clock 66 = .ok (.aload_n 0, 1) := by decide +kernel
theorem dX11_clock_67 : decode cX11_clock 67 = .ok (.getfield 49, 3) := by decide +kernel
theorem dX11_clock_70 : decode cX11_clock 70 = .ok (.iconst 0, 1) := by decide +kernel
theorem dX11_clock_71 : decode cX11_clock 71 = .ok (.putfield 139, 3) := by decide +kernel
theorem dX11_clock_74 : decode cX11_clock 74 = .ok (.aload_n 0, 1) := by decide +kernel
theorem dX11_clock_75 : decode cX11_clock 75 = .ok (.getfield 49, 3) := by decide +kernel
theorem dX11_clock_78 : decode cX11_clock 78 = .ok (.dload_n 3, 1) := by decide +kernel
theorem dX11_clock_79 : decode cX11_clock 79 = .ok (.ldc2_w 271, 3) := by decide +kernel
theorem dX11_clock_82 : decode cX11_clock 82 = .ok (.ddiv, 1) := by decide +kernel
theorem dX11_clock_83 : decode cX11_clock 83 = .ok (.invokestatic 277, 3) := by decide +kernel
theorem dX11_clock_86 : decode cX11_clock 86 = .ok (.iconst 0, 1) := by decide +kernel
theorem dX11_clock_87 : decode cX11_clock 87 = .ok (.invokevirtual 267, 3) := by decide +kernel
theorem dX11_clock_90 : decode cX11_clock 90 = .ok (.aload_n 0, 1) := by decide +kernel
theorem dX11_clock_91 : decode cX11_clock 91 = .ok (.getfield 49, 3) := by decide +kernel
theorem dX11_clock_94 : decode cX11_clock 94 = .ok (.bipush 32, 2) := by decide +kernel
theorem dX11_clock_96 : decode cX11_clock 96 = .ok (.invokevirtual 281, 3) := by decide +kernel
theorem dX11_clock_99 : decode cX11_clock 99 = .ok (.aload_n 0, 1) := by decide +kernel
theorem dX11_clock_100 : decode cX11_clock 100 = .ok (.getfield 49, 3) := by decide +kernel
theorem dX11_clock_103 : decode cX11_clock 103 = .ok (.iload 7, 2) := by decide +kernel
theorem dX11_clock_105 : decode cX11_clock 105 = .ok (.sipush 3600, 3) := by decide +kernel
theorem dX11_clock_108 : decode cX11_clock 108 = .ok (.idiv, 1) := by decide +kernel
theorem dX11_clock_109 : decode cX11_clock 109 = .ok (.invokevirtual 284, 3) := by decide +kernel
theorem dX11_clock_112 : decode cX11_clock 112 = .ok (.aload_n 0, 1) := by decide +kernel
theorem dX11_clock_113 : decode cX11_clock 113 = .ok (.getfield 49, 3) := by decide +kernel
theorem dX11_clock_116 : decode cX11_clock 116 = .ok (.bipush 58, 2) := by decide +kernel
theorem dX11_clock_118 : decode cX11_clock 118 = .ok (.invokevirtual 281, 3) := by decide +kernel
theorem dX11_clock_121 : decode cX11_clock 121 = .ok (.aload_n 0, 1) := by decide +kernel
theorem dX11_clock_122 : decode cX11_clock 122 = .ok (.getfield 49, 3) := by decide +kernel
theorem dX11_clock_125 : decode cX11_clock 125 = .ok (.iload 7, 2) := by decide +kernel
theorem dX11_clock_127 : decode cX11_clock 127 = .ok (.bipush 60, 2) := by decide +kernel
theorem dX11_clock_129 : decode cX11_clock 129 = .ok (.idiv, 1) := by decide +kernel
theorem dX11_clock_130 : decode cX11_clock 130 = .ok (.bipush 60, 2) := by decide +kernel
theorem dX11_clock_132 : decode cX11_clock 132 = .ok (.irem, 1) := by decide +kernel
theorem dX11_clock_133 : decode cX11_clock 133 = .ok (.invokevirtual 284, 3) := by decide +kernel
theorem dX11_clock_136 : decode cX11_clock 136 = .ok (.aload_n 0, 1) := by decide +kernel
theorem dX11_clock_137 : decode cX11_clock 137 = .ok (.getfield 49, 3) := by decide +kernel
theorem dX11_clock_140 : decode cX11_clock 140 = .ok (.bipush 58, 2) := by decide +kernel
theorem dX11_clock_142 : decode cX11_clock 142 = .ok (.invokevirtual 281, 3) := by decide +kernel
theorem dX11_clock_145 : decode cX11_clock 145 = .ok (.aload_n 0, 1) := by decide +kernel
theorem dX11_clock_146 : decode cX11_clock 146 = .ok (.getfield 49, 3) := by decide +kernel
theorem dX11_clock_149 : decode cX11_clock 149 = .ok (.iload 7, 2) := by decide +kernel
theorem dX11_clock_151 : decode cX11_clock 151 = .ok (.bipush 60, 2) := by decide +kernel
theorem dX11_clock_153 : decode cX11_clock 153 = .ok (.irem, 1) := by decide +kernel
theorem dX11_clock_154 : decode cX11_clock 154 = .ok (.invokevirtual 284, 3) := by decide +kernel
theorem dX11_clock_157 : decode cX11_clock 157 = .ok (.aload_n 0, 1) := by decide +kernel
theorem dX11_clock_158 : decode cX11_clock 158 = .ok (.getfield 49, 3) := by decide +kernel
theorem dX11_clock_161 : decode cX11_clock 161 = .ok (.getfield 139, 3) := by decide +kernel
theorem dX11_clock_164 : decode cX11_clock 164 = .ok (.ireturn, 1) := by decide +kernel
abbrev R_X11_clock : Room := ({ frames := 3, cells := 0, slots := 0, locals := 129 } : Room)
def b_X11_clock_64 (n : Nat) (gT : Gs) (gT_2 : Gs) (gT_6 : Gs) (v3 : UInt64) (s0 : Int32) : Option (Int32 × Gs) :=
  grd (n64 (FP.ddiv v3 (4680673776000565248 : UInt64))) (bnd (f_X6_floorOf (FP.ddiv v3 (4680673776000565248 : UInt64))) (fun q_8 => bnd (f_X3_putReal n (sI gT_6 2 (0 : Int32)) gT_2 q_8 (0 : Int32)) (fun q_10 => bnd (f_X3_put q_10 (32 : Int32)) (fun q_12 => bnd (f_X3_putTwo q_12 (s0 / (3600 : Int32))) (fun q_14 => bnd (f_X3_put q_14 (58 : Int32)) (fun q_16 => bnd (f_X3_putTwo q_16 ((s0 / (60 : Int32)) - (s0 / (60 : Int32)) / (60 : Int32) * (60 : Int32))) (fun q_18 => bnd (f_X3_put q_18 (58 : Int32)) (fun q_20 => bnd (f_X3_putTwo q_20 (s0 - s0 / (60 : Int32) * (60 : Int32))) (fun q_22 => some (gI q_22 2, q_22))))))))))
def b_X11_clock_48 (n : Nat) (gT : Gs) (gT_2 : Gs) (gT_6 : Gs) (v3 : UInt64) (v5 : UInt64) : Option (Int32 × Gs) :=
  if (Op.cmpValue (FP.dcmp v5 (4680673776000565248 : UInt64)) .l) = 0 then (b_X11_clock_64 n gT gT_2 gT_6 v3 (0 : Int32)) else (b_X11_clock_64 n gT gT_2 gT_6 v3 (FP.d2i v5))
def f_X11_clock (n : Nat) (gT : Gs) (gT_2 : Gs) (gT_6 : Gs) (x0 : Int64) : Option (Int32 × Gs) :=
  bnd (f_X6_isFinite x0) (fun q_1 => if q_1 = 0 then (some ((-1 : Int32), gT_6)) else (bnd (f_X6_realOf gT_2 (7 : Int32) x0) (fun q_3 => bnd (f_X6_remainder n gT_2 q_3 (4680673776000565248 : UInt64)) (fun q_5 => if 0 ≤ (Op.cmpValue (FP.dcmp q_5 FP.dconst0) .g) then (b_X11_clock_48 n gT gT_2 gT_6 q_3 q_5) else (grd (n64 (FP.dadd q_5 (4680673776000565248 : UInt64))) (b_X11_clock_48 n gT gT_2 gT_6 q_3 (FP.dadd q_5 (4680673776000565248 : UInt64))))))))
def S_X11_clock_64 (l : Launch) (D : Dx) (hT : Nat) (aT : Nat → Nat) (yT : Nat → ClassId) (aT_2 : Nat → Nat) (yT_2 : Nat → ClassId) (aT_6 : Nat → Nat) (yT_6 : Nat → ClassId) (fn : Gs → Gs → Gs → UInt64 → Int32 → Option (Int32 × Gs)) : Prop :=
  ∀ {p : Program} {e : Env} {s : State} {m : MethodId} {args : Array Value} {below : List Frame} {meth : Method} {c : Code} {H : Heap} {locs : List Loc} {A : Nat → Prop} {ls : Array Slot} {gT : Gs} {gT_2 : Gs} {gT_6 : Gs} {v3 : UInt64} {s0 : Int32} {q : Int32 × Gs}, Cx p s m args meth c cX11_clock (some .int) 8 RX11 lw_all → Hx D (tX11 yT ++ (tX6 yT_2 ++ (tX3 yT_6))) A s H locs (wX11 hT aT yT gT ++ (wX6 (aT 2) aT_2 yT_2 gT_2 ++ (wX3 (aT 6) (va_up aT_6 0 (aT 2)) yT_6 gT_6))) → lv_has ls 8 [(0, .ref hT), (3, .double v3)] → fn gT gT_2 gT_6 v3 s0 = some q → W p l e R_X11_clock s m args below meth c H locs 0 0 (MQ below (QI D A (wX11 hT aT yT gT ++ (wX6 (aT 2) aT_2 yT_2 gT_2 ++ (wX3 (aT 6) (va_up aT_6 0 (aT 2)) yT_6 q.2))) q.1) args s 0 0 A) (F0 m 64 ls [.int s0])
def S_X11_clock_48 (l : Launch) (D : Dx) (hT : Nat) (aT : Nat → Nat) (yT : Nat → ClassId) (aT_2 : Nat → Nat) (yT_2 : Nat → ClassId) (aT_6 : Nat → Nat) (yT_6 : Nat → ClassId) (fn : Gs → Gs → Gs → UInt64 → UInt64 → Option (Int32 × Gs)) : Prop :=
  ∀ {p : Program} {e : Env} {s : State} {m : MethodId} {args : Array Value} {below : List Frame} {meth : Method} {c : Code} {H : Heap} {locs : List Loc} {A : Nat → Prop} {ls : Array Slot} {gT : Gs} {gT_2 : Gs} {gT_6 : Gs} {v3 : UInt64} {v5 : UInt64} {q : Int32 × Gs}, Cx p s m args meth c cX11_clock (some .int) 8 RX11 lw_all → Hx D (tX11 yT ++ (tX6 yT_2 ++ (tX3 yT_6))) A s H locs (wX11 hT aT yT gT ++ (wX6 (aT 2) aT_2 yT_2 gT_2 ++ (wX3 (aT 6) (va_up aT_6 0 (aT 2)) yT_6 gT_6))) → lv_has ls 8 [(0, .ref hT), (3, .double v3), (5, .double v5)] → fn gT gT_2 gT_6 v3 v5 = some q → W p l e R_X11_clock s m args below meth c H locs 0 0 (MQ below (QI D A (wX11 hT aT yT gT ++ (wX6 (aT 2) aT_2 yT_2 gT_2 ++ (wX3 (aT 6) (va_up aT_6 0 (aT 2)) yT_6 q.2))) q.1) args s 0 0 A) (F0 m 48 ls [])
set_option maxHeartbeats 4000000 in
set_option maxRecDepth 100000 in
theorem k_X11_clock_64 (l : Launch) (D : Dx) (hT : Nat) (aT : Nat → Nat) (yT : Nat → ClassId) (aT_2 : Nat → Nat) (yT_2 : Nat → ClassId) (aT_6 : Nat → Nat) (yT_6 : Nat → ClassId) (n : Nat) : S_X11_clock_64 l D hT aT yT aT_2 yT_2 aT_6 yT_6 (b_X11_clock_64 n) := by
  intro p e s m args below meth c H locs A ls gT gT_2 gT_6 v3 s0 q C X hl hF
  obtain ⟨hx, hb, hr, hml, hown, hts, hlk⟩ := id C
  unfold b_X11_clock_64 at hF
  refine lv_istore (lv' := [(7, .int s0), (0, .ref hT), (3, .double v3)]) hx hb dX11_clock_64 hl (by decide) rfl (fun ls hl => ?_)
  refine lv_aload_n hx hb dX11_clock_66 rfl (lv_at hl 1 rfl) ?_
  refine va_get (D := D.1) (ci := 11) (v := .ref (aT 6)) (C := RX11) (T := TX11) (N := 14) hx hb hts wi_X11 hown X.1 X.2.1 0 rfl rfl 6 (by decide) (hts _ q2_153) (fun _ h9 => h9) (fl_get (by decide)) dX11_clock_67 ?_
  refine lv_iconst (v := (0 : Int32)) hx hb dX11_clock_70 (by decide) ?_
  refine va_putN (D := D.1) (ci := 3) (v := .int (0 : Int32)) (ty := .int) (C := RX3) (T := TX3) (N := 3) hx hb hts wi_X3 tyX3 tyX3_ok nmX3 hown X.1 X.2.1 X.2.2.1 X.2.2.2.1 3 rfl rfl 2 (by decide) (X.2.2.2.2.2.1.use q1_172 rfl) (fun _ h9 => h9) rfl (by decide +kernel) rfl rfl (by rw [List.length_map, List.length_range]; decide) dX11_clock_71 (fun H locs hP hD hS => ?_)
  have X : Hx D (tX11 yT ++ (tX6 yT_2 ++ (tX3 yT_6))) A s H locs (wX11 hT aT yT gT ++ (wX6 (aT 2) aT_2 yT_2 gT_2 ++ (wX3 (aT 6) (va_up aT_6 0 (aT 2)) yT_6 (sI gT_6 2 (0 : Int32))))) := Hx_set X (set_r (n := 1) (i := 2) (j := 3) (wG_len rfl) rfl (set_r (n := 2) (i := 0) (j := 2) (wG_len rfl) rfl (wG_sI (k := 2) rfl))) hP hD hS
  refine lv_aload_n hx hb dX11_clock_74 rfl (lv_at hl 1 rfl) ?_
  refine va_get (D := D.1) (ci := 11) (v := .ref (aT 6)) (C := RX11) (T := TX11) (N := 14) hx hb hts wi_X11 hown X.1 X.2.1 0 rfl rfl 6 (by decide) (hts _ q2_153) (fun _ h9 => h9) (fl_get (by decide)) dX11_clock_75 ?_
  refine lv_dload_n hx hb dX11_clock_78 rfl (lv_at hl 2 rfl) ?_
  refine lv_ldc2d hx hb hown (hts _ q6_66) dX11_clock_79 ?_
  obtain ⟨h_7, hF⟩ := grd_some hF
  refine lv_ddiv hx hb dX11_clock_82 (n64_ok h_7) ?_
  obtain ⟨q_8, hc_9, hF⟩ := bnd_some hF
  refine cS_d (As := [.double (FP.ddiv v3 (4680673776000565248 : UInt64))]) (rest := [.ref (aT 6)]) C X (c_X6_floorOf l D  (FP.ddiv v3 (4680673776000565248 : UInt64)) q_8 hc_9 _) (va_cwS 1 hts (good_S q6_68 q5_68 q1_2 q5_69) rfl rfl rfl (by decide +kernel) ⟨Nat.le_of_ble_eq_true rfl, Nat.le_of_ble_eq_true rfl⟩) (eK X) eP (eD (A := A)) (eF X) hl.1 rfl rfl (Nat.le_of_ble_eq_true rfl) dX11_clock_83 ⟨Nat.le_of_ble_eq_true rfl, Nat.le_of_ble_eq_true rfl⟩ (fun t H1 locs1 ht hB hk hS => ?_)
  have X := Hx_after_none X hk hS
  clear hk hS ht hB
  generalize H1 = H at X ⊢
  generalize locs1 = locs at X ⊢
  refine lv_iconst (v := (0 : Int32)) hx hb dX11_clock_86 (by decide) ?_
  obtain ⟨q_10, hc_11, hF⟩ := bnd_some hF
  refine cV_v (As := [.double q_8, .int (0 : Int32)]) (rest := []) C X (c_X3_putReal l D (aT 6) (va_up aT_6 0 (aT 2)) yT_6 aT_2 yT_2 n (sI gT_6 2 (0 : Int32)) gT_2 q_8 (0 : Int32) q_10 hc_11 _) (cwV 2 hts (good_V q6_46 q6_47 q6_48 q1_5 q6_49) rfl rfl rfl (by decide +kernel) ⟨Nat.le_of_ble_eq_true rfl, Nat.le_of_ble_eq_true rfl⟩) (va_recv X.1 X.2.1 (ci := 3) (q0 := 3) rfl rfl) (X.1.sub (tys' := tX3 yT_6 ++ (tX6 yT_2)) [1, 0] rfl) (X.2.1.sub (ws' := wX3 (aT 6) (va_up aT_6 0 (aT 2)) yT_6 (sI gT_6 2 (0 : Int32)) ++ (wX6 (aT 2) aT_2 yT_2 gT_2)) [3, 4, 1, 2] rfl) (X.2.2.1.sub (ws' := wX3 (aT 6) (va_up aT_6 0 (aT 2)) yT_6 (sI gT_6 2 (0 : Int32)) ++ (wX6 (aT 2) aT_2 yT_2 gT_2)) [3, 4, 1, 2] (by decide) rfl) (free_of (wC := wX3 (aT 6) (va_up aT_6 0 (aT 2)) yT_6 (sI gT_6 2 (0 : Int32)) ++ (wX6 (aT 2) aT_2 yT_2 gT_2)) (isC := [3, 4, 1, 2]) X rfl) hl.1 rfl rfl (Nat.le_of_ble_eq_true rfl) dX11_clock_87 ⟨Nat.le_of_ble_eq_true rfl, Nat.le_of_ble_eq_true rfl⟩ (fun t H1 locs1 ht hB hk hS => ?_)
  have X : Hx D (tX11 yT ++ (tX6 yT_2 ++ (tX3 yT_6))) A s H1 locs1 (wX11 hT aT yT gT ++ (wX6 (aT 2) aT_2 yT_2 gT_2 ++ (wX3 (aT 6) (va_up aT_6 0 (aT 2)) yT_6 q_10))) := Hx_after (isC := [3, 4, 1, 2]) (isR := [0]) (pm := [0, 3, 4, 1, 2]) (wr := wX11 hT aT yT gT) X ⟨rfl, rfl, by decide, by decide, rfl, by decide⟩ ht hB hk hS
  clear hk hS ht hB
  generalize H1 = H at X ⊢
  generalize locs1 = locs at X ⊢
  refine lv_aload_n hx hb dX11_clock_90 rfl (lv_at hl 1 rfl) ?_
  refine va_get (D := D.1) (ci := 11) (v := .ref (aT 6)) (C := RX11) (T := TX11) (N := 14) hx hb hts wi_X11 hown X.1 X.2.1 0 rfl rfl 6 (by decide) (hts _ q2_153) (fun _ h9 => h9) (fl_get (by decide)) dX11_clock_91 ?_
  refine lv_bipush (v := (32 : Int32)) hx hb dX11_clock_94 (by decide) ?_
  obtain ⟨q_12, hc_13, hF⟩ := bnd_some hF
  refine cV_v (As := [.int (32 : Int32)]) (rest := []) C X (c_X3_put l D (aT 6) (va_up aT_6 0 (aT 2)) yT_6 q_10 (32 : Int32) q_12 hc_13 _) (cwV 1 hts (good_V q6_69 q6_51 q6_52 q1_5 q6_53) rfl rfl rfl (by decide +kernel) ⟨Nat.le_of_ble_eq_true rfl, Nat.le_of_ble_eq_true rfl⟩) (va_recv X.1 X.2.1 (ci := 3) (q0 := 3) rfl rfl) (X.1.sub (tys' := tX3 yT_6) [1] rfl) (X.2.1.sub (ws' := wX3 (aT 6) (va_up aT_6 0 (aT 2)) yT_6 q_10) [3, 4] rfl) (X.2.2.1.sub (ws' := wX3 (aT 6) (va_up aT_6 0 (aT 2)) yT_6 q_10) [3, 4] (by decide) rfl) (free_of (wC := wX3 (aT 6) (va_up aT_6 0 (aT 2)) yT_6 q_10) (isC := [3, 4]) X rfl) hl.1 rfl rfl (Nat.le_of_ble_eq_true rfl) dX11_clock_96 ⟨Nat.le_of_ble_eq_true rfl, Nat.le_of_ble_eq_true rfl⟩ (fun t H1 locs1 ht hB hk hS => ?_)
  have X : Hx D (tX11 yT ++ (tX6 yT_2 ++ (tX3 yT_6))) A s H1 locs1 (wX11 hT aT yT gT ++ (wX6 (aT 2) aT_2 yT_2 gT_2 ++ (wX3 (aT 6) (va_up aT_6 0 (aT 2)) yT_6 q_12))) := Hx_after (isC := [3, 4]) (isR := [0, 1, 2]) (pm := [0, 1, 2, 3, 4]) (wr := wX11 hT aT yT gT ++ (wX6 (aT 2) aT_2 yT_2 gT_2)) X ⟨rfl, rfl, by decide, by decide, rfl, by decide⟩ ht hB hk hS
  clear hk hS ht hB
  generalize H1 = H at X ⊢
  generalize locs1 = locs at X ⊢
  refine lv_aload_n hx hb dX11_clock_99 rfl (lv_at hl 1 rfl) ?_
  refine va_get (D := D.1) (ci := 11) (v := .ref (aT 6)) (C := RX11) (T := TX11) (N := 14) hx hb hts wi_X11 hown X.1 X.2.1 0 rfl rfl 6 (by decide) (hts _ q2_153) (fun _ h9 => h9) (fl_get (by decide)) dX11_clock_100 ?_
  refine lv_iload hx hb dX11_clock_103 (lv_at hl 0 rfl) ?_
  refine lv_sipush (v := (3600 : Int32)) hx hb dX11_clock_105 (by decide) ?_
  refine lv_idiv hx hb dX11_clock_108 (by decide) ?_
  obtain ⟨q_14, hc_15, hF⟩ := bnd_some hF
  refine cV_v (As := [.int (s0 / (3600 : Int32))]) (rest := []) C X (c_X3_putTwo l D (aT 6) (va_up aT_6 0 (aT 2)) yT_6 q_12 (s0 / (3600 : Int32)) q_14 hc_15 _) (cwV 1 hts (good_V q6_70 q6_71 q6_72 q1_5 q6_73) rfl rfl rfl (by decide +kernel) ⟨Nat.le_of_ble_eq_true rfl, Nat.le_of_ble_eq_true rfl⟩) (va_recv X.1 X.2.1 (ci := 3) (q0 := 3) rfl rfl) (X.1.sub (tys' := tX3 yT_6) [1] rfl) (X.2.1.sub (ws' := wX3 (aT 6) (va_up aT_6 0 (aT 2)) yT_6 q_12) [3, 4] rfl) (X.2.2.1.sub (ws' := wX3 (aT 6) (va_up aT_6 0 (aT 2)) yT_6 q_12) [3, 4] (by decide) rfl) (free_of (wC := wX3 (aT 6) (va_up aT_6 0 (aT 2)) yT_6 q_12) (isC := [3, 4]) X rfl) hl.1 rfl rfl (Nat.le_of_ble_eq_true rfl) dX11_clock_109 ⟨Nat.le_of_ble_eq_true rfl, Nat.le_of_ble_eq_true rfl⟩ (fun t H1 locs1 ht hB hk hS => ?_)
  have X : Hx D (tX11 yT ++ (tX6 yT_2 ++ (tX3 yT_6))) A s H1 locs1 (wX11 hT aT yT gT ++ (wX6 (aT 2) aT_2 yT_2 gT_2 ++ (wX3 (aT 6) (va_up aT_6 0 (aT 2)) yT_6 q_14))) := Hx_after (isC := [3, 4]) (isR := [0, 1, 2]) (pm := [0, 1, 2, 3, 4]) (wr := wX11 hT aT yT gT ++ (wX6 (aT 2) aT_2 yT_2 gT_2)) X ⟨rfl, rfl, by decide, by decide, rfl, by decide⟩ ht hB hk hS
  clear hk hS ht hB
  generalize H1 = H at X ⊢
  generalize locs1 = locs at X ⊢
  refine lv_aload_n hx hb dX11_clock_112 rfl (lv_at hl 1 rfl) ?_
  refine va_get (D := D.1) (ci := 11) (v := .ref (aT 6)) (C := RX11) (T := TX11) (N := 14) hx hb hts wi_X11 hown X.1 X.2.1 0 rfl rfl 6 (by decide) (hts _ q2_153) (fun _ h9 => h9) (fl_get (by decide)) dX11_clock_113 ?_
  refine lv_bipush (v := (58 : Int32)) hx hb dX11_clock_116 (by decide) ?_
  obtain ⟨q_16, hc_17, hF⟩ := bnd_some hF
  refine cV_v (As := [.int (58 : Int32)]) (rest := []) C X (c_X3_put l D (aT 6) (va_up aT_6 0 (aT 2)) yT_6 q_14 (58 : Int32) q_16 hc_17 _) (cwV 1 hts (good_V q6_69 q6_51 q6_52 q1_5 q6_53) rfl rfl rfl (by decide +kernel) ⟨Nat.le_of_ble_eq_true rfl, Nat.le_of_ble_eq_true rfl⟩) (va_recv X.1 X.2.1 (ci := 3) (q0 := 3) rfl rfl) (X.1.sub (tys' := tX3 yT_6) [1] rfl) (X.2.1.sub (ws' := wX3 (aT 6) (va_up aT_6 0 (aT 2)) yT_6 q_14) [3, 4] rfl) (X.2.2.1.sub (ws' := wX3 (aT 6) (va_up aT_6 0 (aT 2)) yT_6 q_14) [3, 4] (by decide) rfl) (free_of (wC := wX3 (aT 6) (va_up aT_6 0 (aT 2)) yT_6 q_14) (isC := [3, 4]) X rfl) hl.1 rfl rfl (Nat.le_of_ble_eq_true rfl) dX11_clock_118 ⟨Nat.le_of_ble_eq_true rfl, Nat.le_of_ble_eq_true rfl⟩ (fun t H1 locs1 ht hB hk hS => ?_)
  have X : Hx D (tX11 yT ++ (tX6 yT_2 ++ (tX3 yT_6))) A s H1 locs1 (wX11 hT aT yT gT ++ (wX6 (aT 2) aT_2 yT_2 gT_2 ++ (wX3 (aT 6) (va_up aT_6 0 (aT 2)) yT_6 q_16))) := Hx_after (isC := [3, 4]) (isR := [0, 1, 2]) (pm := [0, 1, 2, 3, 4]) (wr := wX11 hT aT yT gT ++ (wX6 (aT 2) aT_2 yT_2 gT_2)) X ⟨rfl, rfl, by decide, by decide, rfl, by decide⟩ ht hB hk hS
  clear hk hS ht hB
  generalize H1 = H at X ⊢
  generalize locs1 = locs at X ⊢
  refine lv_aload_n hx hb dX11_clock_121 rfl (lv_at hl 1 rfl) ?_
  refine va_get (D := D.1) (ci := 11) (v := .ref (aT 6)) (C := RX11) (T := TX11) (N := 14) hx hb hts wi_X11 hown X.1 X.2.1 0 rfl rfl 6 (by decide) (hts _ q2_153) (fun _ h9 => h9) (fl_get (by decide)) dX11_clock_122 ?_
  refine lv_iload hx hb dX11_clock_125 (lv_at hl 0 rfl) ?_
  refine lv_bipush (v := (60 : Int32)) hx hb dX11_clock_127 (by decide) ?_
  refine lv_idiv hx hb dX11_clock_129 (by decide) ?_
  refine lv_bipush (v := (60 : Int32)) hx hb dX11_clock_130 (by decide) ?_
  refine lv_irem hx hb dX11_clock_132 (by decide) ?_
  obtain ⟨q_18, hc_19, hF⟩ := bnd_some hF
  refine cV_v (As := [.int ((s0 / (60 : Int32)) - (s0 / (60 : Int32)) / (60 : Int32) * (60 : Int32))]) (rest := []) C X (c_X3_putTwo l D (aT 6) (va_up aT_6 0 (aT 2)) yT_6 q_16 ((s0 / (60 : Int32)) - (s0 / (60 : Int32)) / (60 : Int32) * (60 : Int32)) q_18 hc_19 _) (cwV 1 hts (good_V q6_70 q6_71 q6_72 q1_5 q6_73) rfl rfl rfl (by decide +kernel) ⟨Nat.le_of_ble_eq_true rfl, Nat.le_of_ble_eq_true rfl⟩) (va_recv X.1 X.2.1 (ci := 3) (q0 := 3) rfl rfl) (X.1.sub (tys' := tX3 yT_6) [1] rfl) (X.2.1.sub (ws' := wX3 (aT 6) (va_up aT_6 0 (aT 2)) yT_6 q_16) [3, 4] rfl) (X.2.2.1.sub (ws' := wX3 (aT 6) (va_up aT_6 0 (aT 2)) yT_6 q_16) [3, 4] (by decide) rfl) (free_of (wC := wX3 (aT 6) (va_up aT_6 0 (aT 2)) yT_6 q_16) (isC := [3, 4]) X rfl) hl.1 rfl rfl (Nat.le_of_ble_eq_true rfl) dX11_clock_133 ⟨Nat.le_of_ble_eq_true rfl, Nat.le_of_ble_eq_true rfl⟩ (fun t H1 locs1 ht hB hk hS => ?_)
  have X : Hx D (tX11 yT ++ (tX6 yT_2 ++ (tX3 yT_6))) A s H1 locs1 (wX11 hT aT yT gT ++ (wX6 (aT 2) aT_2 yT_2 gT_2 ++ (wX3 (aT 6) (va_up aT_6 0 (aT 2)) yT_6 q_18))) := Hx_after (isC := [3, 4]) (isR := [0, 1, 2]) (pm := [0, 1, 2, 3, 4]) (wr := wX11 hT aT yT gT ++ (wX6 (aT 2) aT_2 yT_2 gT_2)) X ⟨rfl, rfl, by decide, by decide, rfl, by decide⟩ ht hB hk hS
  clear hk hS ht hB
  generalize H1 = H at X ⊢
  generalize locs1 = locs at X ⊢
  refine lv_aload_n hx hb dX11_clock_136 rfl (lv_at hl 1 rfl) ?_
  refine va_get (D := D.1) (ci := 11) (v := .ref (aT 6)) (C := RX11) (T := TX11) (N := 14) hx hb hts wi_X11 hown X.1 X.2.1 0 rfl rfl 6 (by decide) (hts _ q2_153) (fun _ h9 => h9) (fl_get (by decide)) dX11_clock_137 ?_
  refine lv_bipush (v := (58 : Int32)) hx hb dX11_clock_140 (by decide) ?_
  obtain ⟨q_20, hc_21, hF⟩ := bnd_some hF
  refine cV_v (As := [.int (58 : Int32)]) (rest := []) C X (c_X3_put l D (aT 6) (va_up aT_6 0 (aT 2)) yT_6 q_18 (58 : Int32) q_20 hc_21 _) (cwV 1 hts (good_V q6_69 q6_51 q6_52 q1_5 q6_53) rfl rfl rfl (by decide +kernel) ⟨Nat.le_of_ble_eq_true rfl, Nat.le_of_ble_eq_true rfl⟩) (va_recv X.1 X.2.1 (ci := 3) (q0 := 3) rfl rfl) (X.1.sub (tys' := tX3 yT_6) [1] rfl) (X.2.1.sub (ws' := wX3 (aT 6) (va_up aT_6 0 (aT 2)) yT_6 q_18) [3, 4] rfl) (X.2.2.1.sub (ws' := wX3 (aT 6) (va_up aT_6 0 (aT 2)) yT_6 q_18) [3, 4] (by decide) rfl) (free_of (wC := wX3 (aT 6) (va_up aT_6 0 (aT 2)) yT_6 q_18) (isC := [3, 4]) X rfl) hl.1 rfl rfl (Nat.le_of_ble_eq_true rfl) dX11_clock_142 ⟨Nat.le_of_ble_eq_true rfl, Nat.le_of_ble_eq_true rfl⟩ (fun t H1 locs1 ht hB hk hS => ?_)
  have X : Hx D (tX11 yT ++ (tX6 yT_2 ++ (tX3 yT_6))) A s H1 locs1 (wX11 hT aT yT gT ++ (wX6 (aT 2) aT_2 yT_2 gT_2 ++ (wX3 (aT 6) (va_up aT_6 0 (aT 2)) yT_6 q_20))) := Hx_after (isC := [3, 4]) (isR := [0, 1, 2]) (pm := [0, 1, 2, 3, 4]) (wr := wX11 hT aT yT gT ++ (wX6 (aT 2) aT_2 yT_2 gT_2)) X ⟨rfl, rfl, by decide, by decide, rfl, by decide⟩ ht hB hk hS
  clear hk hS ht hB
  generalize H1 = H at X ⊢
  generalize locs1 = locs at X ⊢
  refine lv_aload_n hx hb dX11_clock_145 rfl (lv_at hl 1 rfl) ?_
  refine va_get (D := D.1) (ci := 11) (v := .ref (aT 6)) (C := RX11) (T := TX11) (N := 14) hx hb hts wi_X11 hown X.1 X.2.1 0 rfl rfl 6 (by decide) (hts _ q2_153) (fun _ h9 => h9) (fl_get (by decide)) dX11_clock_146 ?_
  refine lv_iload hx hb dX11_clock_149 (lv_at hl 0 rfl) ?_
  refine lv_bipush (v := (60 : Int32)) hx hb dX11_clock_151 (by decide) ?_
  refine lv_irem hx hb dX11_clock_153 (by decide) ?_
  obtain ⟨q_22, hc_23, hF⟩ := bnd_some hF
  refine cV_v (As := [.int (s0 - s0 / (60 : Int32) * (60 : Int32))]) (rest := []) C X (c_X3_putTwo l D (aT 6) (va_up aT_6 0 (aT 2)) yT_6 q_20 (s0 - s0 / (60 : Int32) * (60 : Int32)) q_22 hc_23 _) (cwV 1 hts (good_V q6_70 q6_71 q6_72 q1_5 q6_73) rfl rfl rfl (by decide +kernel) ⟨Nat.le_of_ble_eq_true rfl, Nat.le_of_ble_eq_true rfl⟩) (va_recv X.1 X.2.1 (ci := 3) (q0 := 3) rfl rfl) (X.1.sub (tys' := tX3 yT_6) [1] rfl) (X.2.1.sub (ws' := wX3 (aT 6) (va_up aT_6 0 (aT 2)) yT_6 q_20) [3, 4] rfl) (X.2.2.1.sub (ws' := wX3 (aT 6) (va_up aT_6 0 (aT 2)) yT_6 q_20) [3, 4] (by decide) rfl) (free_of (wC := wX3 (aT 6) (va_up aT_6 0 (aT 2)) yT_6 q_20) (isC := [3, 4]) X rfl) hl.1 rfl rfl (Nat.le_of_ble_eq_true rfl) dX11_clock_154 ⟨Nat.le_of_ble_eq_true rfl, Nat.le_of_ble_eq_true rfl⟩ (fun t H1 locs1 ht hB hk hS => ?_)
  have X : Hx D (tX11 yT ++ (tX6 yT_2 ++ (tX3 yT_6))) A s H1 locs1 (wX11 hT aT yT gT ++ (wX6 (aT 2) aT_2 yT_2 gT_2 ++ (wX3 (aT 6) (va_up aT_6 0 (aT 2)) yT_6 q_22))) := Hx_after (isC := [3, 4]) (isR := [0, 1, 2]) (pm := [0, 1, 2, 3, 4]) (wr := wX11 hT aT yT gT ++ (wX6 (aT 2) aT_2 yT_2 gT_2)) X ⟨rfl, rfl, by decide, by decide, rfl, by decide⟩ ht hB hk hS
  clear hk hS ht hB
  generalize H1 = H at X ⊢
  generalize locs1 = locs at X ⊢
  refine lv_aload_n hx hb dX11_clock_157 rfl (lv_at hl 1 rfl) ?_
  refine va_get (D := D.1) (ci := 11) (v := .ref (aT 6)) (C := RX11) (T := TX11) (N := 14) hx hb hts wi_X11 hown X.1 X.2.1 0 rfl rfl 6 (by decide) (hts _ q2_153) (fun _ h9 => h9) (fl_get (by decide)) dX11_clock_158 ?_
  refine va_getN (D := D.1) (ci := 3) (v := .int (gI q_22 2)) (C := RX3) (T := TX3) (N := 3) hx hb hts wi_X3 hown X.1 X.2.1 3 rfl rfl 2 (by decide) (X.2.2.2.2.2.1.use q1_172 rfl) (fun _ h9 => h9) (fl_get (by decide)) dX11_clock_161 ?_
  have hq := Option.some.inj hF
  subst hq
  exact rt_i C X dX11_clock_164
set_option maxHeartbeats 4000000 in
set_option maxRecDepth 100000 in
theorem k_X11_clock_48 (l : Launch) (D : Dx) (hT : Nat) (aT : Nat → Nat) (yT : Nat → ClassId) (aT_2 : Nat → Nat) (yT_2 : Nat → ClassId) (aT_6 : Nat → Nat) (yT_6 : Nat → ClassId) (n : Nat) : S_X11_clock_48 l D hT aT yT aT_2 yT_2 aT_6 yT_6 (b_X11_clock_48 n) := by
  intro p e s m args below meth c H locs A ls gT gT_2 gT_6 v3 v5 q C X hl hF
  obtain ⟨hx, hb, hr, hml, hown, hts, hlk⟩ := id C
  unfold b_X11_clock_48 at hF
  refine lv_dload hx hb dX11_clock_48 (lv_at hl 2 rfl) ?_
  refine lv_ldc2d hx hb hown (hts _ q6_66) dX11_clock_50 ?_
  refine lv_dcmp hx hb dX11_clock_53 ?_
  refine lv_if_ne (tgt := 61) hx hb dX11_clock_54 (by decide) (fun c => ?_) (fun c => ?_)
  · replace hF := iF c hF
    refine lv_dload hx hb dX11_clock_61 (lv_at hl 2 rfl) ?_
    refine lv_d2i hx hb dX11_clock_63 ?_
    exact (k_X11_clock_64 l D hT aT yT aT_2 yT_2 aT_6 yT_6 n) C X (lv_sub hl [0, 1] rfl) hF
  · replace hF := iT c hF
    refine lv_iconst (v := (0 : Int32)) hx hb dX11_clock_57 (by decide) ?_
    refine lv_goto (tgt := 64) hx hb dX11_clock_58 (by decide) ?_
    exact (k_X11_clock_64 l D hT aT yT aT_2 yT_2 aT_6 yT_6 n) C X (lv_sub hl [0, 1] rfl) hF
set_option maxHeartbeats 4000000 in
set_option maxRecDepth 100000 in
theorem c_X11_clock (l : Launch) (D : Dx) (hT : Nat) (aT : Nat → Nat) (yT : Nat → ClassId) (aT_2 : Nat → Nat) (yT_2 : Nat → ClassId) (aT_6 : Nat → Nat) (yT_6 : Nat → ClassId) (n : Nat) (gT : Gs) (gT_2 : Gs) (gT_6 : Gs) (x0 : Int64) (q : Int32 × Gs) (hF : f_X11_clock n gT gT_2 gT_6 x0 = some q) (sz : Nat) : Met l yX11_clock (ws_ yX11_clock cX11_clock 8 (some .int)) R_X11_clock (PC D (tX11 yT ++ (tX6 yT_2 ++ (tX3 yT_6))) [.ref hT, .long x0] (wX11 hT aT yT gT ++ (wX6 (aT 2) aT_2 yT_2 gT_2 ++ (wX3 (aT 6) (va_up aT_6 0 (aT 2)) yT_6 gT_6))) sz) (QI D (va_A (wX11 hT aT yT gT ++ (wX6 (aT 2) aT_2 yT_2 gT_2 ++ (wX3 (aT 6) (va_up aT_6 0 (aT 2)) yT_6 gT_6))) sz) (wX11 hT aT yT gT ++ (wX6 (aT 2) aT_2 yT_2 gT_2 ++ (wX3 (aT 6) (va_up aT_6 0 (aT 2)) yT_6 q.2))) q.1) 0 0 (va_A (wX11 hT aT yT gT ++ (wX6 (aT 2) aT_2 yT_2 gT_2 ++ (wX3 (aT 6) (va_up aT_6 0 (aT 2)) yT_6 gT_6))) sz) := by
  refine Met.ofW (cc := cX11_clock) (maxL := 8) (ret := (some .int)) (by decide) rfl ?_
  intro p e s m args below meth c s₁ B hml hv
  obtain ⟨rfl, hsz, hP, hK, hD, hN⟩ := hv
  subst hsz
  have C : Cx p s m _ meth c cX11_clock (some .int) 8 RX11 lw_all := Cx_of B hml
  have X := Hx_start hP hK hD hN
  obtain ⟨hx, hb, hr, -, hown, hts, hlk⟩ := id C
  generalize va_A (wX11 hT aT yT gT ++ (wX6 (aT 2) aT_2 yT_2 gT_2 ++ (wX3 (aT 6) (va_up aT_6 0 (aT 2)) yT_6 gT_6))) s.heap.size = A at X ⊢
  have hl := lv_entry ([.ref hT, .long x0]) (n := 8) (Nat.le_of_ble_eq_true rfl)
  rw [lg_entry_eq]
  generalize (lg_sl ([.ref hT, .long x0]) ++ List.replicate (8 - (lg_sl ([.ref hT, .long x0])).length) Slot.unset).toArray = ls at hl ⊢
  have hl : lv_has ls 8 [(0, .ref hT), (1, .long x0)] := hl
  unfold f_X11_clock at hF
  refine lv_lload_n hx hb dX11_clock_0 rfl (lv_at hl 1 rfl) ?_
  obtain ⟨q_1, hc_2, hF⟩ := bnd_some hF
  refine cS_i (As := [.long x0]) (rest := []) C X (c_X6_isFinite l D  x0 q_1 hc_2 _) (va_cwS 1 hts (good_S q5_204 q5_205 q1_2 q5_206) rfl rfl rfl (by decide +kernel) ⟨Nat.le_of_ble_eq_true rfl, Nat.le_of_ble_eq_true rfl⟩) (eK X) eP (eD (A := A)) (eF X) hl.1 rfl rfl (Nat.le_of_ble_eq_true rfl) dX11_clock_1 ⟨Nat.le_of_ble_eq_true rfl, Nat.le_of_ble_eq_true rfl⟩ (fun t H1 locs1 ht hB hk hS => ?_)
  have X := Hx_after_none X hk hS
  clear hk hS ht hB
  generalize H1 = H at X ⊢
  generalize locs1 = locs at X ⊢
  refine lv_if_ne (tgt := 9) hx hb dX11_clock_4 (by decide) (fun c => ?_) (fun c => ?_)
  · replace hF := iF c hF
    refine lv_aload_n hx hb dX11_clock_9 rfl (lv_at hl 0 rfl) ?_
    refine va_get (D := D.1) (ci := 11) (v := .ref (aT 2)) (C := RX11) (T := TX11) (N := 14) hx hb hts wi_X11 hown X.1 X.2.1 0 rfl rfl 2 (by decide) (hts _ q2_149) (fun _ h9 => h9) (fl_get (by decide)) dX11_clock_10 ?_
    refine lv_bipush (v := (7 : Int32)) hx hb dX11_clock_13 (by decide) ?_
    refine lv_lload_n hx hb dX11_clock_15 rfl (lv_at hl 1 rfl) ?_
    obtain ⟨q_3, hc_4, hF⟩ := bnd_some hF
    refine cV_d (As := [.int (7 : Int32), .long x0]) (rest := []) C X (c_X6_realOf l D (aT 2) aT_2 yT_2 gT_2 (7 : Int32) x0 q_3 hc_4 _) (cwV 2 hts (good_V q5_213 q5_214 q5_215 q1_2 q5_216) rfl rfl rfl (by decide +kernel) ⟨Nat.le_of_ble_eq_true rfl, Nat.le_of_ble_eq_true rfl⟩) (va_recv X.1 X.2.1 (ci := 6) (q0 := 1) rfl rfl) (X.1.sub (tys' := tX6 yT_2) [0] rfl) (X.2.1.sub (ws' := wX6 (aT 2) aT_2 yT_2 gT_2) [1, 2] rfl) (X.2.2.1.sub (ws' := wX6 (aT 2) aT_2 yT_2 gT_2) [1, 2] (by decide) rfl) (free_of (wC := wX6 (aT 2) aT_2 yT_2 gT_2) (isC := [1, 2]) X rfl) hl.1 rfl rfl (Nat.le_of_ble_eq_true rfl) dX11_clock_16 ⟨Nat.le_of_ble_eq_true rfl, Nat.le_of_ble_eq_true rfl⟩ (fun t H1 locs1 ht hB hk hS => ?_)
    have X : Hx D (tX11 yT ++ (tX6 yT_2 ++ (tX3 yT_6))) A s H1 locs1 (wX11 hT aT yT gT ++ (wX6 (aT 2) aT_2 yT_2 gT_2 ++ (wX3 (aT 6) (va_up aT_6 0 (aT 2)) yT_6 gT_6))) := Hx_after (isC := [1, 2]) (isR := [0, 3, 4]) (pm := [0, 3, 4, 1, 2]) (wr := wX11 hT aT yT gT ++ (wX3 (aT 6) (va_up aT_6 0 (aT 2)) yT_6 gT_6)) X ⟨rfl, rfl, by decide, by decide, rfl, by decide⟩ ht hB hk hS
    clear hk hS ht hB
    generalize H1 = H at X ⊢
    generalize locs1 = locs at X ⊢
    refine lv_dstore_n (lv' := [(3, .double q_3), (0, .ref hT), (1, .long x0)]) hx hb dX11_clock_19 rfl hl (by decide) rfl (fun ls hl => ?_)
    refine lv_aload_n hx hb dX11_clock_20 rfl (lv_at hl 1 rfl) ?_
    refine va_get (D := D.1) (ci := 11) (v := .ref (aT 2)) (C := RX11) (T := TX11) (N := 14) hx hb hts wi_X11 hown X.1 X.2.1 0 rfl rfl 2 (by decide) (hts _ q2_149) (fun _ h9 => h9) (fl_get (by decide)) dX11_clock_21 ?_
    refine lv_dload_n hx hb dX11_clock_24 rfl (lv_at hl 0 rfl) ?_
    refine lv_ldc2d hx hb hown (hts _ q6_66) dX11_clock_25 ?_
    obtain ⟨q_5, hc_6, hF⟩ := bnd_some hF
    refine cV_d (As := [.double q_3, .double (4680673776000565248 : UInt64)]) (rest := []) C X (c_X6_remainder l D (aT 2) aT_2 yT_2 n gT_2 q_3 (4680673776000565248 : UInt64) q_5 hc_6 _) (cwV 2 hts (good_V q6_67 q5_103 q5_104 q1_2 q5_105) rfl rfl rfl (by decide +kernel) ⟨Nat.le_of_ble_eq_true rfl, Nat.le_of_ble_eq_true rfl⟩) (va_recv X.1 X.2.1 (ci := 6) (q0 := 1) rfl rfl) (X.1.sub (tys' := tX6 yT_2) [0] rfl) (X.2.1.sub (ws' := wX6 (aT 2) aT_2 yT_2 gT_2) [1, 2] rfl) (X.2.2.1.sub (ws' := wX6 (aT 2) aT_2 yT_2 gT_2) [1, 2] (by decide) rfl) (free_of (wC := wX6 (aT 2) aT_2 yT_2 gT_2) (isC := [1, 2]) X rfl) hl.1 rfl rfl (Nat.le_of_ble_eq_true rfl) dX11_clock_28 ⟨Nat.le_of_ble_eq_true rfl, Nat.le_of_ble_eq_true rfl⟩ (fun t H1 locs1 ht hB hk hS => ?_)
    have X : Hx D (tX11 yT ++ (tX6 yT_2 ++ (tX3 yT_6))) A s H1 locs1 (wX11 hT aT yT gT ++ (wX6 (aT 2) aT_2 yT_2 gT_2 ++ (wX3 (aT 6) (va_up aT_6 0 (aT 2)) yT_6 gT_6))) := Hx_after (isC := [1, 2]) (isR := [0, 3, 4]) (pm := [0, 3, 4, 1, 2]) (wr := wX11 hT aT yT gT ++ (wX3 (aT 6) (va_up aT_6 0 (aT 2)) yT_6 gT_6)) X ⟨rfl, rfl, by decide, by decide, rfl, by decide⟩ ht hB hk hS
    clear hk hS ht hB
    generalize H1 = H at X ⊢
    generalize locs1 = locs at X ⊢
    refine lv_dstore (lv' := [(5, .double q_5), (3, .double q_3), (0, .ref hT), (1, .long x0)]) hx hb dX11_clock_31 hl (by decide) rfl (fun ls hl => ?_)
    refine lv_dload hx hb dX11_clock_33 (lv_at hl 0 rfl) ?_
    refine lv_dconst0 hx hb dX11_clock_35 ?_
    refine lv_dcmp hx hb dX11_clock_36 ?_
    refine lv_if_ge (tgt := 48) hx hb dX11_clock_37 (by decide) (fun c => ?_) (fun c => ?_)
    · replace hF := iT c hF
      exact (k_X11_clock_48 l D hT aT yT aT_2 yT_2 aT_6 yT_6 n) C X (lv_sub hl [2, 1, 0] rfl) hF
    · replace hF := iF c hF
      refine lv_dload hx hb dX11_clock_40 (lv_at hl 0 rfl) ?_
      refine lv_ldc2d hx hb hown (hts _ q6_66) dX11_clock_42 ?_
      obtain ⟨h_24, hF⟩ := grd_some hF
      refine lv_dadd hx hb dX11_clock_45 (n64_ok h_24) ?_
      refine lv_dstore (lv' := [(5, .double (FP.dadd q_5 (4680673776000565248 : UInt64))), (3, .double q_3), (0, .ref hT), (1, .long x0)]) hx hb dX11_clock_46 hl (by decide) rfl (fun ls hl => ?_)
      exact (k_X11_clock_48 l D hT aT yT aT_2 yT_2 aT_6 yT_6 n) C X (lv_sub hl [2, 1, 0] rfl) hF
  · replace hF := iT c hF
    refine lv_iconst (v := (-1 : Int32)) hx hb dX11_clock_7 (by decide) ?_
    have hq := Option.some.inj hF
    subst hq
    exact rt_i C X dX11_clock_8

/-! ### X11_octet -/
theorem dX11_octet_0 : decode cX11_octet 0 = .ok (.iload_n 1, 1) := by decide +kernel
theorem dX11_octet_1 : decode cX11_octet 1 = .ok (.ifCond .lt 26, 3) := by decide +kernel
theorem dX11_octet_4 : decode cX11_octet 4 = .ok (.iload_n 1, 1) := by decide +kernel
theorem dX11_octet_5 : decode cX11_octet 5 = .ok (.aload_n 0, 1) := by decide +kernel
theorem dX11_octet_6 : decode cX11_octet 6 = .ok (.getfield 49, 3) := by decide +kernel
theorem dX11_octet_9 : decode cX11_octet 9 = .ok (.getfield 139, 3) := by decide +kernel
theorem dX11_octet_12 : decode cX11_octet 12 = .ok (.if_icmp .ge 15, 3) := by decide +kernel
theorem dX11_octet_15 : decode cX11_octet 15 = .ok (.aload_n 0, 1) := by decide +kernel
theorem dX11_octet_16 : decode cX11_octet 16 = .ok (.getfield 49, 3) := by decide +kernel
theorem dX11_octet_19 : decode cX11_octet 19 = .ok (.getfield 287, 3) := by decide +kernel
theorem dX11_octet_22 : decode cX11_octet 22 = .ok (.iload_n 1, 1) := by decide +kernel
theorem dX11_octet_23 : decode cX11_octet 23 = .ok (.baload, 1) := by decide +kernel
theorem dX11_octet_24 : decode cX11_octet 24 = .ok (.goto 4, 3) := by decide +kernel
theorem dX11_octet_27 : decode cX11_octet 27 = .ok (.iconst (-1), 1) := by decide +kernel
theorem dX11_octet_28 : decode cX11_octet 28 = .ok (.ireturn, 1) := by decide +kernel
abbrev R_X11_octet : Room := ({ frames := 0, cells := 0, slots := 0, locals := 0 } : Room)
def f_X11_octet (gT : Gs) (gT_6 : Gs) (x0 : Int32) : Option (Int32) :=
  if x0 < 0 then (some (-1 : Int32)) else (if (gI gT_6 2) ≤ x0 then (some (-1 : Int32)) else (grd (inB x0 48) (some (gIA gT_6 1 x0.toNatClampNeg))))
set_option maxHeartbeats 4000000 in
set_option maxRecDepth 100000 in
theorem c_X11_octet (l : Launch) (D : Dx) (hT : Nat) (aT : Nat → Nat) (yT : Nat → ClassId) (aT_6 : Nat → Nat) (yT_6 : Nat → ClassId) (gT : Gs) (gT_6 : Gs) (x0 : Int32) (q : Int32) (hF : f_X11_octet gT gT_6 x0 = some q) (sz : Nat) : Met l yX11_octet (ws_ yX11_octet cX11_octet 2 (some .int)) R_X11_octet (PC D (tX11 yT ++ (tX3 yT_6)) [.ref hT, .int x0] (wX11 hT aT yT gT ++ (wX3 (aT 6) aT_6 yT_6 gT_6)) sz) (QI D (va_A (wX11 hT aT yT gT ++ (wX3 (aT 6) aT_6 yT_6 gT_6)) sz) (wX11 hT aT yT gT ++ (wX3 (aT 6) aT_6 yT_6 gT_6)) q) 0 0 (va_A (wX11 hT aT yT gT ++ (wX3 (aT 6) aT_6 yT_6 gT_6)) sz) := by
  refine Met.ofW (cc := cX11_octet) (maxL := 2) (ret := (some .int)) (by decide) rfl ?_
  intro p e s m args below meth c s₁ B hml hv
  obtain ⟨rfl, hsz, hP, hK, hD, hN⟩ := hv
  subst hsz
  have C : Cx p s m _ meth c cX11_octet (some .int) 2 RX11 lw_all := Cx_of B hml
  have X := Hx_start hP hK hD hN
  obtain ⟨hx, hb, hr, -, hown, hts, hlk⟩ := id C
  generalize va_A (wX11 hT aT yT gT ++ (wX3 (aT 6) aT_6 yT_6 gT_6)) s.heap.size = A at X ⊢
  have hl := lv_entry ([.ref hT, .int x0]) (n := 2) (Nat.le_of_ble_eq_true rfl)
  rw [lg_entry_eq]
  generalize (lg_sl ([.ref hT, .int x0]) ++ List.replicate (2 - (lg_sl ([.ref hT, .int x0])).length) Slot.unset).toArray = ls at hl ⊢
  have hl : lv_has ls 2 [(0, .ref hT), (1, .int x0)] := hl
  unfold f_X11_octet at hF
  refine lv_iload_n hx hb dX11_octet_0 rfl (lv_at hl 1 rfl) ?_
  refine lv_if_lt (tgt := 27) hx hb dX11_octet_1 (by decide) (fun c => ?_) (fun c => ?_)
  · replace hF := iT c hF
    refine lv_iconst (v := (-1 : Int32)) hx hb dX11_octet_27 (by decide) ?_
    have hq := Option.some.inj hF
    subst hq
    exact rt_i C X dX11_octet_28
  · replace hF := iF c hF
    refine lv_iload_n hx hb dX11_octet_4 rfl (lv_at hl 1 rfl) ?_
    refine lv_aload_n hx hb dX11_octet_5 rfl (lv_at hl 0 rfl) ?_
    refine va_get (D := D.1) (ci := 11) (v := .ref (aT 6)) (C := RX11) (T := TX11) (N := 14) hx hb hts wi_X11 hown X.1 X.2.1 0 rfl rfl 6 (by decide) (hts _ q2_153) (fun _ h9 => h9) (fl_get (by decide)) dX11_octet_6 ?_
    refine va_getN (D := D.1) (ci := 3) (v := .int (gI gT_6 2)) (C := RX3) (T := TX3) (N := 3) hx hb hts wi_X3 hown X.1 X.2.1 1 rfl rfl 2 (by decide) (X.2.2.2.2.2.1.use q1_172 rfl) (fun _ h9 => h9) (fl_get (by decide)) dX11_octet_9 ?_
    refine lv_icmp_ge (tgt := 27) hx hb dX11_octet_12 (by decide) (fun c => ?_) (fun c => ?_)
    · replace hF := iT c hF
      refine lv_iconst (v := (-1 : Int32)) hx hb dX11_octet_27 (by decide) ?_
      have hq := Option.some.inj hF
      subst hq
      exact rt_i C X dX11_octet_28
    · replace hF := iF c hF
      refine lv_aload_n hx hb dX11_octet_15 rfl (lv_at hl 0 rfl) ?_
      refine va_get (D := D.1) (ci := 11) (v := .ref (aT 6)) (C := RX11) (T := TX11) (N := 14) hx hb hts wi_X11 hown X.1 X.2.1 0 rfl rfl 6 (by decide) (hts _ q2_153) (fun _ h9 => h9) (fl_get (by decide)) dX11_octet_16 ?_
      refine va_getN (D := D.1) (ci := 3) (v := .ref (aT_6 1)) (C := RX3) (T := TX3) (N := 3) hx hb hts wi_X3 hown X.1 X.2.1 1 rfl rfl 1 (by decide) (X.2.2.2.2.2.1.use q1_170 rfl) (fun _ h9 => h9) (fl_get (by decide)) dX11_octet_19 ?_
      refine lv_iload_n hx hb dX11_octet_22 rfl (lv_at hl 1 rfl) ?_
      obtain ⟨h_1, hF⟩ := grd_some hF
      refine va_bald (D := D.1) (f := gIA gT_6 1) hx hb X.1 X.2.1 2 0 rfl rfl (inB_ok h_1) dX11_octet_23 ?_
      refine lv_goto (tgt := 28) hx hb dX11_octet_24 (by decide) ?_
      have hq := Option.some.inj hF
      subst hq
      exact rt_i C X dX11_octet_28

/-! ### X11_measure -/
theorem dX11_measure_0 : decode cX11_measure 0 = .ok (.lload_n 1, 1) := by decide +kernel
theorem dX11_measure_1 : decode cX11_measure 1 = .ok (.invokestatic 203, 3) := by decide +kernel
theorem dX11_measure_4 : decode cX11_measure 4 = .ok (.ifCond .eq 10, 3) := by decide +kernel
theorem dX11_measure_7 : decode cX11_measure 7 = .ok (.lload_n 3, 1) := by decide +kernel
theorem dX11_measure_8 : decode cX11_measure 8 = .ok (.invokestatic 203, 3) := by decide +kernel
theorem dX11_measure_11 : decode cX11_measure 11 = .ok (.ifCond .ne 7, 3) := by decide +kernel
theorem dX11_measure_14 : decode cX11_measure 14 = .ok (.ldc2_w 224, 3) := by decide +kernel
theorem dX11_measure_17 : decode cX11_measure 17 = .ok (.lreturn, 1) := by decide +kernel
theorem dX11_measure_18 : decode cX11_measure 18 = .ok (.aload_n 0, 1) := by decide +kernel
theorem dX11_measure_19 : decode cX11_measure 19 = .ok (.getfield 20, 3) := by decide +kernel
theorem dX11_measure_22 : decode cX11_measure 22 = .ok (.aload_n 0, 1) := by decide +kernel
theorem dX11_measure_23 : decode cX11_measure 23 = .ok (.getfield 20, 3) := by decide +kernel
theorem dX11_measure_26 : decode cX11_measure 26 = .ok (.aload_n 0, 1) := by decide +kernel
theorem dX11_measure_27 : decode cX11_measure 27 = .ok (.getfield 20, 3) := by decide +kernel
theorem dX11_measure_30 : decode cX11_measure 30 = .ok (.bipush 7, 2) := by decide +kernel
theorem dX11_measure_32 : decode cX11_measure 32 = .ok (.lload_n 1, 1) := by decide +kernel
theorem dX11_measure_33 : decode cX11_measure 33 = .ok (.invokevirtual 214, 3) := by decide +kernel
theorem dX11_measure_36 : decode cX11_measure 36 = .ok (.aload_n 0, 1) := by decide +kernel
theorem dX11_measure_37 : decode cX11_measure 37 = .ok (.getfield 20, 3) := by decide +kernel
theorem dX11_measure_40 : decode cX11_measure 40 = .ok (.bipush 7, 2) := by decide +kernel
theorem dX11_measure_42 : decode cX11_measure 42 = .ok (.lload_n 3, 1) := by decide +kernel
theorem dX11_measure_43 : decode cX11_measure 43 = .ok (.invokevirtual 214, 3) := by decide +kernel
theorem dX11_measure_46 : decode cX11_measure 46 = .ok (.invokevirtual 290, 3) := by decide +kernel
theorem dX11_measure_49 : decode cX11_measure 49 = .ok (.invokevirtual 293, 3) := by decide +kernel
theorem dX11_measure_52 : decode cX11_measure 52 = .ok (.lreturn, 1) := by decide +kernel
abbrev R_X11_measure : Room := ({ frames := 3, cells := 0, slots := 0, locals := 131 } : Room)
def f_X11_measure (n : Nat) (gT : Gs) (gT_2 : Gs) (x0 : Int64) (x1 : Int64) : Option (Int64) :=
  bnd (f_X6_isFinite x0) (fun q_1 => if q_1 = 0 then (some (-1 : Int64)) else (bnd (f_X6_isFinite x1) (fun q_3 => if q_3 = 0 then (some (-1 : Int64)) else (bnd (f_X6_realOf gT_2 (7 : Int32) x0) (fun q_5 => bnd (f_X6_realOf gT_2 (7 : Int32) x1) (fun q_7 => bnd (f_X6_gcdOf n gT_2 q_5 q_7) (fun q_9 => bnd (f_X6_bits n gT_2 q_9) (fun q_11 => some q_11))))))))
set_option maxHeartbeats 4000000 in
set_option maxRecDepth 100000 in
theorem c_X11_measure (l : Launch) (D : Dx) (hT : Nat) (aT : Nat → Nat) (yT : Nat → ClassId) (aT_2 : Nat → Nat) (yT_2 : Nat → ClassId) (n : Nat) (gT : Gs) (gT_2 : Gs) (x0 : Int64) (x1 : Int64) (q : Int64) (hF : f_X11_measure n gT gT_2 x0 x1 = some q) (sz : Nat) : Met l yX11_measure (ws_ yX11_measure cX11_measure 5 (some .long)) R_X11_measure (PC D (tX11 yT ++ (tX6 yT_2)) [.ref hT, .long x0, .long x1] (wX11 hT aT yT gT ++ (wX6 (aT 2) aT_2 yT_2 gT_2)) sz) (QL D (va_A (wX11 hT aT yT gT ++ (wX6 (aT 2) aT_2 yT_2 gT_2)) sz) (wX11 hT aT yT gT ++ (wX6 (aT 2) aT_2 yT_2 gT_2)) q) 0 0 (va_A (wX11 hT aT yT gT ++ (wX6 (aT 2) aT_2 yT_2 gT_2)) sz) := by
  refine Met.ofW (cc := cX11_measure) (maxL := 5) (ret := (some .long)) (by decide) rfl ?_
  intro p e s m args below meth c s₁ B hml hv
  obtain ⟨rfl, hsz, hP, hK, hD, hN⟩ := hv
  subst hsz
  have C : Cx p s m _ meth c cX11_measure (some .long) 5 RX11 lw_all := Cx_of B hml
  have X := Hx_start hP hK hD hN
  obtain ⟨hx, hb, hr, -, hown, hts, hlk⟩ := id C
  generalize va_A (wX11 hT aT yT gT ++ (wX6 (aT 2) aT_2 yT_2 gT_2)) s.heap.size = A at X ⊢
  have hl := lv_entry ([.ref hT, .long x0, .long x1]) (n := 5) (Nat.le_of_ble_eq_true rfl)
  rw [lg_entry_eq]
  generalize (lg_sl ([.ref hT, .long x0, .long x1]) ++ List.replicate (5 - (lg_sl ([.ref hT, .long x0, .long x1])).length) Slot.unset).toArray = ls at hl ⊢
  have hl : lv_has ls 5 [(0, .ref hT), (1, .long x0), (3, .long x1)] := hl
  unfold f_X11_measure at hF
  refine lv_lload_n hx hb dX11_measure_0 rfl (lv_at hl 1 rfl) ?_
  obtain ⟨q_1, hc_2, hF⟩ := bnd_some hF
  refine cS_i (As := [.long x0]) (rest := []) C X (c_X6_isFinite l D  x0 q_1 hc_2 _) (va_cwS 1 hts (good_S q5_204 q5_205 q1_2 q5_206) rfl rfl rfl (by decide +kernel) ⟨Nat.le_of_ble_eq_true rfl, Nat.le_of_ble_eq_true rfl⟩) (eK X) eP (eD (A := A)) (eF X) hl.1 rfl rfl (Nat.le_of_ble_eq_true rfl) dX11_measure_1 ⟨Nat.le_of_ble_eq_true rfl, Nat.le_of_ble_eq_true rfl⟩ (fun t H1 locs1 ht hB hk hS => ?_)
  have X := Hx_after_none X hk hS
  clear hk hS ht hB
  generalize H1 = H at X ⊢
  generalize locs1 = locs at X ⊢
  refine lv_if_eq (tgt := 14) hx hb dX11_measure_4 (by decide) (fun c => ?_) (fun c => ?_)
  · replace hF := iT c hF
    refine lv_ldc2 hx hb hown (hts _ q5_231) dX11_measure_14 ?_
    have hq := Option.some.inj hF
    subst hq
    exact rt_l C X dX11_measure_17
  · replace hF := iF c hF
    refine lv_lload_n hx hb dX11_measure_7 rfl (lv_at hl 2 rfl) ?_
    obtain ⟨q_3, hc_4, hF⟩ := bnd_some hF
    refine cS_i (As := [.long x1]) (rest := []) C X (c_X6_isFinite l D  x1 q_3 hc_4 _) (va_cwS 1 hts (good_S q5_204 q5_205 q1_2 q5_206) rfl rfl rfl (by decide +kernel) ⟨Nat.le_of_ble_eq_true rfl, Nat.le_of_ble_eq_true rfl⟩) (eK X) eP (eD (A := A)) (eF X) hl.1 rfl rfl (Nat.le_of_ble_eq_true rfl) dX11_measure_8 ⟨Nat.le_of_ble_eq_true rfl, Nat.le_of_ble_eq_true rfl⟩ (fun t H1 locs1 ht hB hk hS => ?_)
    have X := Hx_after_none X hk hS
    clear hk hS ht hB
    generalize H1 = H at X ⊢
    generalize locs1 = locs at X ⊢
    refine lv_if_ne (tgt := 18) hx hb dX11_measure_11 (by decide) (fun c => ?_) (fun c => ?_)
    · replace hF := iF c hF
      refine lv_aload_n hx hb dX11_measure_18 rfl (lv_at hl 0 rfl) ?_
      refine va_get (D := D.1) (ci := 11) (v := .ref (aT 2)) (C := RX11) (T := TX11) (N := 14) hx hb hts wi_X11 hown X.1 X.2.1 0 rfl rfl 2 (by decide) (hts _ q2_149) (fun _ h9 => h9) (fl_get (by decide)) dX11_measure_19 ?_
      refine lv_aload_n hx hb dX11_measure_22 rfl (lv_at hl 0 rfl) ?_
      refine va_get (D := D.1) (ci := 11) (v := .ref (aT 2)) (C := RX11) (T := TX11) (N := 14) hx hb hts wi_X11 hown X.1 X.2.1 0 rfl rfl 2 (by decide) (hts _ q2_149) (fun _ h9 => h9) (fl_get (by decide)) dX11_measure_23 ?_
      refine lv_aload_n hx hb dX11_measure_26 rfl (lv_at hl 0 rfl) ?_
      refine va_get (D := D.1) (ci := 11) (v := .ref (aT 2)) (C := RX11) (T := TX11) (N := 14) hx hb hts wi_X11 hown X.1 X.2.1 0 rfl rfl 2 (by decide) (hts _ q2_149) (fun _ h9 => h9) (fl_get (by decide)) dX11_measure_27 ?_
      refine lv_bipush (v := (7 : Int32)) hx hb dX11_measure_30 (by decide) ?_
      refine lv_lload_n hx hb dX11_measure_32 rfl (lv_at hl 1 rfl) ?_
      obtain ⟨q_5, hc_6, hF⟩ := bnd_some hF
      refine cV_d (As := [.int (7 : Int32), .long x0]) (rest := [.ref (aT 2), .ref (aT 2)]) C X (c_X6_realOf l D (aT 2) aT_2 yT_2 gT_2 (7 : Int32) x0 q_5 hc_6 _) (cwV 2 hts (good_V q5_213 q5_214 q5_215 q1_2 q5_216) rfl rfl rfl (by decide +kernel) ⟨Nat.le_of_ble_eq_true rfl, Nat.le_of_ble_eq_true rfl⟩) (va_recv X.1 X.2.1 (ci := 6) (q0 := 1) rfl rfl) (X.1.sub (tys' := tX6 yT_2) [0] rfl) (X.2.1.sub (ws' := wX6 (aT 2) aT_2 yT_2 gT_2) [1, 2] rfl) (X.2.2.1.sub (ws' := wX6 (aT 2) aT_2 yT_2 gT_2) [1, 2] (by decide) rfl) (free_of (wC := wX6 (aT 2) aT_2 yT_2 gT_2) (isC := [1, 2]) X rfl) hl.1 rfl rfl (Nat.le_of_ble_eq_true rfl) dX11_measure_33 ⟨Nat.le_of_ble_eq_true rfl, Nat.le_of_ble_eq_true rfl⟩ (fun t H1 locs1 ht hB hk hS => ?_)
      have X : Hx D (tX11 yT ++ (tX6 yT_2)) A s H1 locs1 (wX11 hT aT yT gT ++ (wX6 (aT 2) aT_2 yT_2 gT_2)) := Hx_after (isC := [1, 2]) (isR := [0]) (pm := [0, 1, 2]) (wr := wX11 hT aT yT gT) X ⟨rfl, rfl, by decide, by decide, rfl, by decide⟩ ht hB hk hS
      clear hk hS ht hB
      generalize H1 = H at X ⊢
      generalize locs1 = locs at X ⊢
      refine lv_aload_n hx hb dX11_measure_36 rfl (lv_at hl 0 rfl) ?_
      refine va_get (D := D.1) (ci := 11) (v := .ref (aT 2)) (C := RX11) (T := TX11) (N := 14) hx hb hts wi_X11 hown X.1 X.2.1 0 rfl rfl 2 (by decide) (hts _ q2_149) (fun _ h9 => h9) (fl_get (by decide)) dX11_measure_37 ?_
      refine lv_bipush (v := (7 : Int32)) hx hb dX11_measure_40 (by decide) ?_
      refine lv_lload_n hx hb dX11_measure_42 rfl (lv_at hl 2 rfl) ?_
      obtain ⟨q_7, hc_8, hF⟩ := bnd_some hF
      refine cV_d (As := [.int (7 : Int32), .long x1]) (rest := [.double q_5, .ref (aT 2), .ref (aT 2)]) C X (c_X6_realOf l D (aT 2) aT_2 yT_2 gT_2 (7 : Int32) x1 q_7 hc_8 _) (cwV 2 hts (good_V q5_213 q5_214 q5_215 q1_2 q5_216) rfl rfl rfl (by decide +kernel) ⟨Nat.le_of_ble_eq_true rfl, Nat.le_of_ble_eq_true rfl⟩) (va_recv X.1 X.2.1 (ci := 6) (q0 := 1) rfl rfl) (X.1.sub (tys' := tX6 yT_2) [0] rfl) (X.2.1.sub (ws' := wX6 (aT 2) aT_2 yT_2 gT_2) [1, 2] rfl) (X.2.2.1.sub (ws' := wX6 (aT 2) aT_2 yT_2 gT_2) [1, 2] (by decide) rfl) (free_of (wC := wX6 (aT 2) aT_2 yT_2 gT_2) (isC := [1, 2]) X rfl) hl.1 rfl rfl (Nat.le_of_ble_eq_true rfl) dX11_measure_43 ⟨Nat.le_of_ble_eq_true rfl, Nat.le_of_ble_eq_true rfl⟩ (fun t H1 locs1 ht hB hk hS => ?_)
      have X : Hx D (tX11 yT ++ (tX6 yT_2)) A s H1 locs1 (wX11 hT aT yT gT ++ (wX6 (aT 2) aT_2 yT_2 gT_2)) := Hx_after (isC := [1, 2]) (isR := [0]) (pm := [0, 1, 2]) (wr := wX11 hT aT yT gT) X ⟨rfl, rfl, by decide, by decide, rfl, by decide⟩ ht hB hk hS
      clear hk hS ht hB
      generalize H1 = H at X ⊢
      generalize locs1 = locs at X ⊢
      obtain ⟨q_9, hc_10, hF⟩ := bnd_some hF
      refine cV_d (As := [.double q_5, .double q_7]) (rest := [.ref (aT 2)]) C X (c_X6_gcdOf l D (aT 2) aT_2 yT_2 n gT_2 q_5 q_7 q_9 hc_10 _) (cwV 2 hts (good_V q6_82 q5_120 q5_121 q1_2 q5_122) rfl rfl rfl (by decide +kernel) ⟨Nat.le_of_ble_eq_true rfl, Nat.le_of_ble_eq_true rfl⟩) (va_recv X.1 X.2.1 (ci := 6) (q0 := 1) rfl rfl) (X.1.sub (tys' := tX6 yT_2) [0] rfl) (X.2.1.sub (ws' := wX6 (aT 2) aT_2 yT_2 gT_2) [1, 2] rfl) (X.2.2.1.sub (ws' := wX6 (aT 2) aT_2 yT_2 gT_2) [1, 2] (by decide) rfl) (free_of (wC := wX6 (aT 2) aT_2 yT_2 gT_2) (isC := [1, 2]) X rfl) hl.1 rfl rfl (Nat.le_of_ble_eq_true rfl) dX11_measure_46 ⟨Nat.le_of_ble_eq_true rfl, Nat.le_of_ble_eq_true rfl⟩ (fun t H1 locs1 ht hB hk hS => ?_)
      have X : Hx D (tX11 yT ++ (tX6 yT_2)) A s H1 locs1 (wX11 hT aT yT gT ++ (wX6 (aT 2) aT_2 yT_2 gT_2)) := Hx_after (isC := [1, 2]) (isR := [0]) (pm := [0, 1, 2]) (wr := wX11 hT aT yT gT) X ⟨rfl, rfl, by decide, by decide, rfl, by decide⟩ ht hB hk hS
      clear hk hS ht hB
      generalize H1 = H at X ⊢
      generalize locs1 = locs at X ⊢
      obtain ⟨q_11, hc_12, hF⟩ := bnd_some hF
      refine cV_l (As := [.double q_9]) (rest := []) C X (c_X6_bits l D (aT 2) aT_2 yT_2 n gT_2 q_9 q_11 hc_12 _) (cwV 1 hts (good_V q6_83 q5_182 q5_183 q1_2 q5_184) rfl rfl rfl (by decide +kernel) ⟨Nat.le_of_ble_eq_true rfl, Nat.le_of_ble_eq_true rfl⟩) (va_recv X.1 X.2.1 (ci := 6) (q0 := 1) rfl rfl) (X.1.sub (tys' := tX6 yT_2) [0] rfl) (X.2.1.sub (ws' := wX6 (aT 2) aT_2 yT_2 gT_2) [1, 2] rfl) (X.2.2.1.sub (ws' := wX6 (aT 2) aT_2 yT_2 gT_2) [1, 2] (by decide) rfl) (free_of (wC := wX6 (aT 2) aT_2 yT_2 gT_2) (isC := [1, 2]) X rfl) hl.1 rfl rfl (Nat.le_of_ble_eq_true rfl) dX11_measure_49 ⟨Nat.le_of_ble_eq_true rfl, Nat.le_of_ble_eq_true rfl⟩ (fun t H1 locs1 ht hB hk hS => ?_)
      have X : Hx D (tX11 yT ++ (tX6 yT_2)) A s H1 locs1 (wX11 hT aT yT gT ++ (wX6 (aT 2) aT_2 yT_2 gT_2)) := Hx_after (isC := [1, 2]) (isR := [0]) (pm := [0, 1, 2]) (wr := wX11 hT aT yT gT) X ⟨rfl, rfl, by decide, by decide, rfl, by decide⟩ ht hB hk hS
      clear hk hS ht hB
      generalize H1 = H at X ⊢
      generalize locs1 = locs at X ⊢
      have hq := Option.some.inj hF
      subst hq
      exact rt_l C X dX11_measure_52
    · replace hF := iT c hF
      refine lv_ldc2 hx hb hown (hts _ q5_231) dX11_measure_14 ?_
      have hq := Option.some.inj hF
      subst hq
      exact rt_l C X dX11_measure_17

/-! ### X11_together -/
theorem dX11_together_0 : decode cX11_together 0 = .ok (.lload_n 1, 1) := by decide +kernel
theorem dX11_together_1 : decode cX11_together 1 = .ok (.invokestatic 297, 3) := by decide +kernel
theorem dX11_together_4 : decode cX11_together 4 = .ok (.ifCond .eq 10, 3) := by decide +kernel
theorem dX11_together_7 : decode cX11_together 7 = .ok (.lload_n 3, 1) := by decide +kernel
theorem dX11_together_8 : decode cX11_together 8 = .ok (.invokestatic 297, 3) := by decide +kernel
theorem dX11_together_11 : decode cX11_together 11 = .ok (.ifCond .ne 7, 3) := by decide +kernel
theorem dX11_together_14 : decode cX11_together 14 = .ok (.ldc2_w 224, 3) := by decide +kernel
theorem dX11_together_17 : decode cX11_together 17 = .ok (.lreturn, 1) := by decide +kernel
theorem dX11_together_18 : decode cX11_together 18 = .ok (.aload_n 0, 1) := by decide +kernel
theorem dX11_together_19 : decode cX11_together 19 = .ok (.getfield 20, 3) := by decide +kernel
theorem dX11_together_22 : decode cX11_together 22 = .ok (.bipush 7, 2) := by decide +kernel
theorem dX11_together_24 : decode cX11_together 24 = .ok (.lload_n 1, 1) := by decide +kernel
theorem dX11_together_25 : decode cX11_together 25 = .ok (.invokevirtual 214, 3) := by decide +kernel
theorem dX11_together_28 : decode cX11_together 28 = .ok (.dstore 5, 2) := by decide +kernel
theorem dX11_together_30 : decode cX11_together 30 = .ok (.aload_n 0, 1) := by decide +kernel
theorem dX11_together_31 : decode cX11_together 31 = .ok (.getfield 20, 3) := by decide +kernel
theorem dX11_together_34 : decode cX11_together 34 = .ok (.bipush 7, 2) := by decide +kernel
theorem dX11_together_36 : decode cX11_together 36 = .ok (.lload_n 3, 1) := by decide +kernel
theorem dX11_together_37 : decode cX11_together 37 = .ok (.invokevirtual 214, 3) := by decide +kernel
theorem dX11_together_40 : decode cX11_together 40 = .ok (.dstore 7, 2) := by decide +kernel
theorem dX11_together_42 : decode cX11_together 42 = .ok (.aload_n 0, 1) := by decide +kernel
theorem dX11_together_43 : decode cX11_together 43 = .ok (.getfield 20, 3) := by decide +kernel
theorem dX11_together_46 : decode cX11_together 46 = .ok (.dload 5, 2) := by decide +kernel
theorem dX11_together_48 : decode cX11_together 48 = .ok (.dload 7, 2) := by decide +kernel
theorem dX11_together_50 : decode cX11_together 50 = .ok (.invokevirtual 290, 3) := by decide +kernel
theorem dX11_together_53 : decode cX11_together 53 = .ok (.dstore 9, 2) := by decide +kernel
theorem dX11_together_55 : decode cX11_together 55 = .ok (.dload 5, 2) := by decide +kernel
theorem dX11_together_57 : decode cX11_together 57 = .ok (.dload 7, 2) := by decide +kernel
theorem dX11_together_59 : decode cX11_together 59 = .ok (.dload 9, 2) := by decide +kernel
theorem dX11_together_61 : decode cX11_together 61 = .ok (.ddiv, 1) := by decide +kernel
theorem dX11_together_62 : decode cX11_together 62 = .ok (.dmul, 1) := by decide +kernel
theorem dX11_together_63 : decode cX11_together 63 = .ok (.dstore 11, 2) := by decide +kernel
theorem dX11_together_65 : decode cX11_together 65 = .ok (.dload 11, 2) := by decide +kernel
theorem dX11_together_67 : decode cX11_together 67 = .ok (.invokestatic 300, 3) := by decide +kernel
theorem dX11_together_70 : decode cX11_together 70 = .ok (.ifCond .eq 9, 3) := by decide +kernel
theorem dX11_together_73 : decode cX11_together 73 = .ok (.ldc2_w 224, 3) := by decide +kernel
theorem dX11_together_76 : decode cX11_together 76 = .ok (.goto 12, 3) := by decide +kernel
theorem dX11_together_79 : decode cX11_together 79 = .ok (.aload_n 0, 1) := by decide +kernel
theorem dX11_together_80 : decode cX11_together 80 = .ok (.getfield 20, 3) := by decide +kernel
theorem dX11_together_83 : decode cX11_together 83 = .ok (.dload 11, 2) := by decide +kernel
theorem dX11_together_85 : decode cX11_together 85 = .ok (.invokevirtual 293, 3) := by decide +kernel
theorem dX11_together_88 : decode cX11_together 88 = .ok (.lreturn, 1) := by decide +kernel
abbrev R_X11_together : Room := ({ frames := 3, cells := 0, slots := 0, locals := 131 } : Room)
def f_X11_together (n : Nat) (gT : Gs) (gT_2 : Gs) (x0 : Int64) (x1 : Int64) : Option (Int64) :=
  bnd (f_X11_isAboveZero x0) (fun q_1 => if q_1 = 0 then (some (-1 : Int64)) else (bnd (f_X11_isAboveZero x1) (fun q_3 => if q_3 = 0 then (some (-1 : Int64)) else (bnd (f_X6_realOf gT_2 (7 : Int32) x0) (fun q_5 => bnd (f_X6_realOf gT_2 (7 : Int32) x1) (fun q_7 => bnd (f_X6_gcdOf n gT_2 q_5 q_7) (fun q_9 => grd (n64 (FP.ddiv q_7 q_9)) (grd (n64 (FP.dmul q_5 (FP.ddiv q_7 q_9))) (bnd (f_X6_isBeyond (FP.dmul q_5 (FP.ddiv q_7 q_9))) (fun q_13 => if q_13 = 0 then (bnd (f_X6_bits n gT_2 (FP.dmul q_5 (FP.ddiv q_7 q_9))) (fun q_15 => some q_15)) else (some (-1 : Int64))))))))))))
set_option maxHeartbeats 4000000 in
set_option maxRecDepth 100000 in
theorem c_X11_together (l : Launch) (D : Dx) (hT : Nat) (aT : Nat → Nat) (yT : Nat → ClassId) (aT_2 : Nat → Nat) (yT_2 : Nat → ClassId) (n : Nat) (gT : Gs) (gT_2 : Gs) (x0 : Int64) (x1 : Int64) (q : Int64) (hF : f_X11_together n gT gT_2 x0 x1 = some q) (sz : Nat) : Met l yX11_together (ws_ yX11_together cX11_together 13 (some .long)) R_X11_together (PC D (tX11 yT ++ (tX6 yT_2)) [.ref hT, .long x0, .long x1] (wX11 hT aT yT gT ++ (wX6 (aT 2) aT_2 yT_2 gT_2)) sz) (QL D (va_A (wX11 hT aT yT gT ++ (wX6 (aT 2) aT_2 yT_2 gT_2)) sz) (wX11 hT aT yT gT ++ (wX6 (aT 2) aT_2 yT_2 gT_2)) q) 0 0 (va_A (wX11 hT aT yT gT ++ (wX6 (aT 2) aT_2 yT_2 gT_2)) sz) := by
  refine Met.ofW (cc := cX11_together) (maxL := 13) (ret := (some .long)) (by decide) rfl ?_
  intro p e s m args below meth c s₁ B hml hv
  obtain ⟨rfl, hsz, hP, hK, hD, hN⟩ := hv
  subst hsz
  have C : Cx p s m _ meth c cX11_together (some .long) 13 RX11 lw_all := Cx_of B hml
  have X := Hx_start hP hK hD hN
  obtain ⟨hx, hb, hr, -, hown, hts, hlk⟩ := id C
  generalize va_A (wX11 hT aT yT gT ++ (wX6 (aT 2) aT_2 yT_2 gT_2)) s.heap.size = A at X ⊢
  have hl := lv_entry ([.ref hT, .long x0, .long x1]) (n := 13) (Nat.le_of_ble_eq_true rfl)
  rw [lg_entry_eq]
  generalize (lg_sl ([.ref hT, .long x0, .long x1]) ++ List.replicate (13 - (lg_sl ([.ref hT, .long x0, .long x1])).length) Slot.unset).toArray = ls at hl ⊢
  have hl : lv_has ls 13 [(0, .ref hT), (1, .long x0), (3, .long x1)] := hl
  unfold f_X11_together at hF
  refine lv_lload_n hx hb dX11_together_0 rfl (lv_at hl 1 rfl) ?_
  obtain ⟨q_1, hc_2, hF⟩ := bnd_some hF
  refine cS_i (As := [.long x0]) (rest := []) C X (c_X11_isAboveZero l D  x0 q_1 hc_2 _) (va_cwS 1 hts (good_S q6_88 q6_89 q1_1 q6_90) rfl rfl rfl (by decide +kernel) ⟨Nat.le_of_ble_eq_true rfl, Nat.le_of_ble_eq_true rfl⟩) (eK X) eP (eD (A := A)) (eF X) hl.1 rfl rfl (Nat.le_of_ble_eq_true rfl) dX11_together_1 ⟨Nat.le_of_ble_eq_true rfl, Nat.le_of_ble_eq_true rfl⟩ (fun t H1 locs1 ht hB hk hS => ?_)
  have X := Hx_after_none X hk hS
  clear hk hS ht hB
  generalize H1 = H at X ⊢
  generalize locs1 = locs at X ⊢
  refine lv_if_eq (tgt := 14) hx hb dX11_together_4 (by decide) (fun c => ?_) (fun c => ?_)
  · replace hF := iT c hF
    refine lv_ldc2 hx hb hown (hts _ q5_231) dX11_together_14 ?_
    have hq := Option.some.inj hF
    subst hq
    exact rt_l C X dX11_together_17
  · replace hF := iF c hF
    refine lv_lload_n hx hb dX11_together_7 rfl (lv_at hl 2 rfl) ?_
    obtain ⟨q_3, hc_4, hF⟩ := bnd_some hF
    refine cS_i (As := [.long x1]) (rest := []) C X (c_X11_isAboveZero l D  x1 q_3 hc_4 _) (va_cwS 1 hts (good_S q6_88 q6_89 q1_1 q6_90) rfl rfl rfl (by decide +kernel) ⟨Nat.le_of_ble_eq_true rfl, Nat.le_of_ble_eq_true rfl⟩) (eK X) eP (eD (A := A)) (eF X) hl.1 rfl rfl (Nat.le_of_ble_eq_true rfl) dX11_together_8 ⟨Nat.le_of_ble_eq_true rfl, Nat.le_of_ble_eq_true rfl⟩ (fun t H1 locs1 ht hB hk hS => ?_)
    have X := Hx_after_none X hk hS
    clear hk hS ht hB
    generalize H1 = H at X ⊢
    generalize locs1 = locs at X ⊢
    refine lv_if_ne (tgt := 18) hx hb dX11_together_11 (by decide) (fun c => ?_) (fun c => ?_)
    · replace hF := iF c hF
      refine lv_aload_n hx hb dX11_together_18 rfl (lv_at hl 0 rfl) ?_
      refine va_get (D := D.1) (ci := 11) (v := .ref (aT 2)) (C := RX11) (T := TX11) (N := 14) hx hb hts wi_X11 hown X.1 X.2.1 0 rfl rfl 2 (by decide) (hts _ q2_149) (fun _ h9 => h9) (fl_get (by decide)) dX11_together_19 ?_
      refine lv_bipush (v := (7 : Int32)) hx hb dX11_together_22 (by decide) ?_
      refine lv_lload_n hx hb dX11_together_24 rfl (lv_at hl 1 rfl) ?_
      obtain ⟨q_5, hc_6, hF⟩ := bnd_some hF
      refine cV_d (As := [.int (7 : Int32), .long x0]) (rest := []) C X (c_X6_realOf l D (aT 2) aT_2 yT_2 gT_2 (7 : Int32) x0 q_5 hc_6 _) (cwV 2 hts (good_V q5_213 q5_214 q5_215 q1_2 q5_216) rfl rfl rfl (by decide +kernel) ⟨Nat.le_of_ble_eq_true rfl, Nat.le_of_ble_eq_true rfl⟩) (va_recv X.1 X.2.1 (ci := 6) (q0 := 1) rfl rfl) (X.1.sub (tys' := tX6 yT_2) [0] rfl) (X.2.1.sub (ws' := wX6 (aT 2) aT_2 yT_2 gT_2) [1, 2] rfl) (X.2.2.1.sub (ws' := wX6 (aT 2) aT_2 yT_2 gT_2) [1, 2] (by decide) rfl) (free_of (wC := wX6 (aT 2) aT_2 yT_2 gT_2) (isC := [1, 2]) X rfl) hl.1 rfl rfl (Nat.le_of_ble_eq_true rfl) dX11_together_25 ⟨Nat.le_of_ble_eq_true rfl, Nat.le_of_ble_eq_true rfl⟩ (fun t H1 locs1 ht hB hk hS => ?_)
      have X : Hx D (tX11 yT ++ (tX6 yT_2)) A s H1 locs1 (wX11 hT aT yT gT ++ (wX6 (aT 2) aT_2 yT_2 gT_2)) := Hx_after (isC := [1, 2]) (isR := [0]) (pm := [0, 1, 2]) (wr := wX11 hT aT yT gT) X ⟨rfl, rfl, by decide, by decide, rfl, by decide⟩ ht hB hk hS
      clear hk hS ht hB
      generalize H1 = H at X ⊢
      generalize locs1 = locs at X ⊢
      refine lv_dstore (lv' := [(5, .double q_5), (0, .ref hT), (1, .long x0), (3, .long x1)]) hx hb dX11_together_28 hl (by decide) rfl (fun ls hl => ?_)
      refine lv_aload_n hx hb dX11_together_30 rfl (lv_at hl 1 rfl) ?_
      refine va_get (D := D.1) (ci := 11) (v := .ref (aT 2)) (C := RX11) (T := TX11) (N := 14) hx hb hts wi_X11 hown X.1 X.2.1 0 rfl rfl 2 (by decide) (hts _ q2_149) (fun _ h9 => h9) (fl_get (by decide)) dX11_together_31 ?_
      refine lv_bipush (v := (7 : Int32)) hx hb dX11_together_34 (by decide) ?_
      refine lv_lload_n hx hb dX11_together_36 rfl (lv_at hl 3 rfl) ?_
      obtain ⟨q_7, hc_8, hF⟩ := bnd_some hF
      refine cV_d (As := [.int (7 : Int32), .long x1]) (rest := []) C X (c_X6_realOf l D (aT 2) aT_2 yT_2 gT_2 (7 : Int32) x1 q_7 hc_8 _) (cwV 2 hts (good_V q5_213 q5_214 q5_215 q1_2 q5_216) rfl rfl rfl (by decide +kernel) ⟨Nat.le_of_ble_eq_true rfl, Nat.le_of_ble_eq_true rfl⟩) (va_recv X.1 X.2.1 (ci := 6) (q0 := 1) rfl rfl) (X.1.sub (tys' := tX6 yT_2) [0] rfl) (X.2.1.sub (ws' := wX6 (aT 2) aT_2 yT_2 gT_2) [1, 2] rfl) (X.2.2.1.sub (ws' := wX6 (aT 2) aT_2 yT_2 gT_2) [1, 2] (by decide) rfl) (free_of (wC := wX6 (aT 2) aT_2 yT_2 gT_2) (isC := [1, 2]) X rfl) hl.1 rfl rfl (Nat.le_of_ble_eq_true rfl) dX11_together_37 ⟨Nat.le_of_ble_eq_true rfl, Nat.le_of_ble_eq_true rfl⟩ (fun t H1 locs1 ht hB hk hS => ?_)
      have X : Hx D (tX11 yT ++ (tX6 yT_2)) A s H1 locs1 (wX11 hT aT yT gT ++ (wX6 (aT 2) aT_2 yT_2 gT_2)) := Hx_after (isC := [1, 2]) (isR := [0]) (pm := [0, 1, 2]) (wr := wX11 hT aT yT gT) X ⟨rfl, rfl, by decide, by decide, rfl, by decide⟩ ht hB hk hS
      clear hk hS ht hB
      generalize H1 = H at X ⊢
      generalize locs1 = locs at X ⊢
      refine lv_dstore (lv' := [(7, .double q_7), (5, .double q_5), (0, .ref hT), (1, .long x0), (3, .long x1)]) hx hb dX11_together_40 hl (by decide) rfl (fun ls hl => ?_)
      refine lv_aload_n hx hb dX11_together_42 rfl (lv_at hl 2 rfl) ?_
      refine va_get (D := D.1) (ci := 11) (v := .ref (aT 2)) (C := RX11) (T := TX11) (N := 14) hx hb hts wi_X11 hown X.1 X.2.1 0 rfl rfl 2 (by decide) (hts _ q2_149) (fun _ h9 => h9) (fl_get (by decide)) dX11_together_43 ?_
      refine lv_dload hx hb dX11_together_46 (lv_at hl 1 rfl) ?_
      refine lv_dload hx hb dX11_together_48 (lv_at hl 0 rfl) ?_
      obtain ⟨q_9, hc_10, hF⟩ := bnd_some hF
      refine cV_d (As := [.double q_5, .double q_7]) (rest := []) C X (c_X6_gcdOf l D (aT 2) aT_2 yT_2 n gT_2 q_5 q_7 q_9 hc_10 _) (cwV 2 hts (good_V q6_82 q5_120 q5_121 q1_2 q5_122) rfl rfl rfl (by decide +kernel) ⟨Nat.le_of_ble_eq_true rfl, Nat.le_of_ble_eq_true rfl⟩) (va_recv X.1 X.2.1 (ci := 6) (q0 := 1) rfl rfl) (X.1.sub (tys' := tX6 yT_2) [0] rfl) (X.2.1.sub (ws' := wX6 (aT 2) aT_2 yT_2 gT_2) [1, 2] rfl) (X.2.2.1.sub (ws' := wX6 (aT 2) aT_2 yT_2 gT_2) [1, 2] (by decide) rfl) (free_of (wC := wX6 (aT 2) aT_2 yT_2 gT_2) (isC := [1, 2]) X rfl) hl.1 rfl rfl (Nat.le_of_ble_eq_true rfl) dX11_together_50 ⟨Nat.le_of_ble_eq_true rfl, Nat.le_of_ble_eq_true rfl⟩ (fun t H1 locs1 ht hB hk hS => ?_)
      have X : Hx D (tX11 yT ++ (tX6 yT_2)) A s H1 locs1 (wX11 hT aT yT gT ++ (wX6 (aT 2) aT_2 yT_2 gT_2)) := Hx_after (isC := [1, 2]) (isR := [0]) (pm := [0, 1, 2]) (wr := wX11 hT aT yT gT) X ⟨rfl, rfl, by decide, by decide, rfl, by decide⟩ ht hB hk hS
      clear hk hS ht hB
      generalize H1 = H at X ⊢
      generalize locs1 = locs at X ⊢
      refine lv_dstore (lv' := [(9, .double q_9), (7, .double q_7), (5, .double q_5), (0, .ref hT), (1, .long x0), (3, .long x1)]) hx hb dX11_together_53 hl (by decide) rfl (fun ls hl => ?_)
      refine lv_dload hx hb dX11_together_55 (lv_at hl 2 rfl) ?_
      refine lv_dload hx hb dX11_together_57 (lv_at hl 1 rfl) ?_
      refine lv_dload hx hb dX11_together_59 (lv_at hl 0 rfl) ?_
      obtain ⟨h_11, hF⟩ := grd_some hF
      refine lv_ddiv hx hb dX11_together_61 (n64_ok h_11) ?_
      obtain ⟨h_12, hF⟩ := grd_some hF
      refine lv_dmul hx hb dX11_together_62 (n64_ok h_12) ?_
      refine lv_dstore (lv' := [(11, .double (FP.dmul q_5 (FP.ddiv q_7 q_9))), (9, .double q_9), (7, .double q_7), (5, .double q_5), (0, .ref hT), (1, .long x0), (3, .long x1)]) hx hb dX11_together_63 hl (by decide) rfl (fun ls hl => ?_)
      refine lv_dload hx hb dX11_together_65 (lv_at hl 0 rfl) ?_
      obtain ⟨q_13, hc_14, hF⟩ := bnd_some hF
      refine cS_i (As := [.double (FP.dmul q_5 (FP.ddiv q_7 q_9))]) (rest := []) C X (c_X6_isBeyond l D  (FP.dmul q_5 (FP.ddiv q_7 q_9)) q_13 hc_14 _) (va_cwS 1 hts (good_S q6_91 q3_216 q1_2 q3_217) rfl rfl rfl (by decide +kernel) ⟨Nat.le_of_ble_eq_true rfl, Nat.le_of_ble_eq_true rfl⟩) (eK X) eP (eD (A := A)) (eF X) hl.1 rfl rfl (Nat.le_of_ble_eq_true rfl) dX11_together_67 ⟨Nat.le_of_ble_eq_true rfl, Nat.le_of_ble_eq_true rfl⟩ (fun t H1 locs1 ht hB hk hS => ?_)
      have X := Hx_after_none X hk hS
      clear hk hS ht hB
      generalize H1 = H at X ⊢
      generalize locs1 = locs at X ⊢
      refine lv_if_eq (tgt := 79) hx hb dX11_together_70 (by decide) (fun c => ?_) (fun c => ?_)
      · replace hF := iT c hF
        refine lv_aload_n hx hb dX11_together_79 rfl (lv_at hl 4 rfl) ?_
        refine va_get (D := D.1) (ci := 11) (v := .ref (aT 2)) (C := RX11) (T := TX11) (N := 14) hx hb hts wi_X11 hown X.1 X.2.1 0 rfl rfl 2 (by decide) (hts _ q2_149) (fun _ h9 => h9) (fl_get (by decide)) dX11_together_80 ?_
        refine lv_dload hx hb dX11_together_83 (lv_at hl 0 rfl) ?_
        obtain ⟨q_15, hc_16, hF⟩ := bnd_some hF
        refine cV_l (As := [.double (FP.dmul q_5 (FP.ddiv q_7 q_9))]) (rest := []) C X (c_X6_bits l D (aT 2) aT_2 yT_2 n gT_2 (FP.dmul q_5 (FP.ddiv q_7 q_9)) q_15 hc_16 _) (cwV 1 hts (good_V q6_83 q5_182 q5_183 q1_2 q5_184) rfl rfl rfl (by decide +kernel) ⟨Nat.le_of_ble_eq_true rfl, Nat.le_of_ble_eq_true rfl⟩) (va_recv X.1 X.2.1 (ci := 6) (q0 := 1) rfl rfl) (X.1.sub (tys' := tX6 yT_2) [0] rfl) (X.2.1.sub (ws' := wX6 (aT 2) aT_2 yT_2 gT_2) [1, 2] rfl) (X.2.2.1.sub (ws' := wX6 (aT 2) aT_2 yT_2 gT_2) [1, 2] (by decide) rfl) (free_of (wC := wX6 (aT 2) aT_2 yT_2 gT_2) (isC := [1, 2]) X rfl) hl.1 rfl rfl (Nat.le_of_ble_eq_true rfl) dX11_together_85 ⟨Nat.le_of_ble_eq_true rfl, Nat.le_of_ble_eq_true rfl⟩ (fun t H1 locs1 ht hB hk hS => ?_)
        have X : Hx D (tX11 yT ++ (tX6 yT_2)) A s H1 locs1 (wX11 hT aT yT gT ++ (wX6 (aT 2) aT_2 yT_2 gT_2)) := Hx_after (isC := [1, 2]) (isR := [0]) (pm := [0, 1, 2]) (wr := wX11 hT aT yT gT) X ⟨rfl, rfl, by decide, by decide, rfl, by decide⟩ ht hB hk hS
        clear hk hS ht hB
        generalize H1 = H at X ⊢
        generalize locs1 = locs at X ⊢
        have hq := Option.some.inj hF
        subst hq
        exact rt_l C X dX11_together_88
      · replace hF := iF c hF
        refine lv_ldc2 hx hb hown (hts _ q5_231) dX11_together_73 ?_
        refine lv_goto (tgt := 88) hx hb dX11_together_76 (by decide) ?_
        have hq := Option.some.inj hF
        subst hq
        exact rt_l C X dX11_together_88
    · replace hF := iT c hF
      refine lv_ldc2 hx hb hown (hts _ q5_231) dX11_together_14 ?_
      have hq := Option.some.inj hF
      subst hq
      exact rt_l C X dX11_together_17

/-! ### X11_train -/
theorem dX11_train_0 : decode cX11_train 0 = .ok (.lload_n 1, 1) := by decide +kernel
theorem dX11_train_1 : decode cX11_train 1 = .ok (.invokestatic 297, 3) := by decide +kernel
theorem dX11_train_4 : decode cX11_train 4 = .ok (.ifCond .eq 13, 3) := by decide +kernel
theorem dX11_train_7 : decode cX11_train 7 = .ok (.iload_n 3, 1) := by decide +kernel
theorem dX11_train_8 : decode cX11_train 8 = .ok (.iconst 1, 1) := by decide +kernel
theorem dX11_train_9 : decode cX11_train 9 = .ok (.if_icmp .lt 8, 3) := by decide +kernel
theorem dX11_train_12 : decode cX11_train 12 = .ok (.iload_n 3, 1) := by decide +kernel
theorem dX11_train_13 : decode cX11_train 13 = .ok (.iconst 2, 1) := by decide +kernel
theorem dX11_train_14 : decode cX11_train 14 = .ok (.if_icmp .le 7, 3) := by decide +kernel
theorem dX11_train_17 : decode cX11_train 17 = .ok (.ldc2_w 224, 3) := by decide +kernel
theorem dX11_train_20 : decode cX11_train 20 = .ok (.lreturn, 1) := by decide +kernel
theorem dX11_train_21 : decode cX11_train 21 = .ok (.iload 4, 2) := by decide +kernel
theorem dX11_train_23 : decode cX11_train 23 = .ok (.iconst 4, 1) := by decide +kernel
theorem dX11_train_24 : decode cX11_train 24 = .ok (.if_icmp .lt 28, 3) := by decide +kernel
theorem dX11_train_27 : decode cX11_train 27 = .ok (.iload 5, 2) := by decide +kernel
theorem dX11_train_29 : decode cX11_train 29 = .ok (.iload 4, 2) := by decide +kernel
theorem dX11_train_31 : decode cX11_train 31 = .ok (.if_icmp .lt 21, 3) := by decide +kernel
theorem dX11_train_34 : decode cX11_train 34 = .ok (.iload 5, 2) := by decide +kernel
theorem dX11_train_36 : decode cX11_train 36 = .ok (.sipush 200, 3) := by decide +kernel
theorem dX11_train_39 : decode cX11_train 39 = .ok (.if_icmp .gt 13, 3) := by decide +kernel
theorem dX11_train_42 : decode cX11_train 42 = .ok (.iload 5, 2) := by decide +kernel
theorem dX11_train_44 : decode cX11_train 44 = .ok (.iload 4, 2) := by decide +kernel
theorem dX11_train_46 : decode cX11_train 46 = .ok (.isub, 1) := by decide +kernel
theorem dX11_train_47 : decode cX11_train 47 = .ok (.bipush 30, 2) := by decide +kernel
theorem dX11_train_49 : decode cX11_train 49 = .ok (.if_icmp .le 7, 3) := by decide +kernel
theorem dX11_train_52 : decode cX11_train 52 = .ok (.ldc2_w 224, 3) := by decide +kernel
theorem dX11_train_55 : decode cX11_train 55 = .ok (.lreturn, 1) := by decide +kernel
theorem dX11_train_56 : decode cX11_train 56 = .ok (.aload_n 0, 1) := by decide +kernel
theorem dX11_train_57 : decode cX11_train 57 = .ok (.getfield 20, 3) := by decide +kernel
theorem dX11_train_60 : decode cX11_train 60 = .ok (.bipush 7, 2) := by decide +kernel
theorem dX11_train_62 : decode cX11_train 62 = .ok (.lload_n 1, 1) := by decide +kernel
theorem dX11_train_63 : decode cX11_train 63 = .ok (.invokevirtual 214, 3) := by decide +kernel
theorem dX11_train_66 : decode cX11_train 66 = .ok (.dstore 6, 2) := by decide +kernel
theorem dX11_train_68 : decode cX11_train 68 = .ok (.aload_n 0, 1) := by decide +kernel
theorem dX11_train_69 : decode cX11_train 69 = .ok (.getfield 20, 3) := by decide +kernel
theorem dX11_train_72 : decode cX11_train 72 = .ok (.iload_n 3, 1) := by decide +kernel
theorem dX11_train_73 : decode cX11_train 73 = .ok (.iconst 1, 1) := by decide +kernel
theorem dX11_train_74 : decode cX11_train 74 = .ok (.if_icmp .ne 19, 3) := by decide +kernel
theorem dX11_train_77 : decode cX11_train 77 = .ok (.aload_n 0, 1) := by decide +kernel
theorem dX11_train_78 : decode cX11_train 78 = .ok (.getfield 56, 3) := by decide +kernel
theorem dX11_train_81 : decode cX11_train 81 = .ok (.dload 6, 2) := by decide +kernel
theorem dX11_train_83 : decode cX11_train 83 = .ok (.iload 4, 2) := by decide +kernel
theorem dX11_train_85 : decode cX11_train 85 = .ok (.iload 5, 2) := by decide +kernel
theorem dX11_train_87 : decode cX11_train 87 = .ok (.invokevirtual 304, 3) := by decide +kernel
theorem dX11_train_90 : decode cX11_train 90 = .ok (.goto 16, 3) := by decide +kernel
theorem dX11_train_93 : decode cX11_train 93 = .ok (.aload_n 0, 1) := by decide +kernel
theorem dX11_train_94 : decode cX11_train 94 = .ok (.getfield 56, 3) := by decide +kernel
theorem dX11_train_97 : decode cX11_train 97 = .ok (.dload 6, 2) := by decide +kernel
theorem dX11_train_99 : decode cX11_train 99 = .ok (.iload 4, 2) := by decide +kernel
theorem dX11_train_101 : decode cX11_train 101 = .ok (.iload 5, 2) := by decide +kernel
theorem dX11_train_103 : decode cX11_train 103 = .ok (.invokevirtual 308, 3) := by decide +kernel
theorem dX11_train_106 : decode cX11_train 106 = .ok (.invokevirtual 293, 3) := by decide +kernel
theorem dX11_train_109 : decode cX11_train 109 = .ok (.lreturn, 1) := by decide +kernel
abbrev R_X11_train : Room := ({ frames := 3, cells := 0, slots := 0, locals := 116 } : Room)
def b_X11_train_106 (n : Nat) (gT : Gs) (gT_2 : Gs) (gT_7 : Gs) (s0 : UInt64) : Option (Int64 × Gs) :=
  bnd (f_X6_bits n gT_2 s0) (fun q_7 => some (q_7, gT_7))
def f_X11_train (n : Nat) (gT : Gs) (gT_2 : Gs) (gT_7 : Gs) (x0 : Int64) (x1 : Int32) (x2 : Int32) (x3 : Int32) : Option (Int64 × Gs) :=
  bnd (f_X11_isAboveZero x0) (fun q_1 => if q_1 = 0 then (some ((-1 : Int64), gT_7)) else (if x1 < (1 : Int32) then (some ((-1 : Int64), gT_7)) else (if x1 ≤ (2 : Int32) then (if x2 < (4 : Int32) then (some ((-1 : Int64), gT_7)) else (if x3 < x2 then (some ((-1 : Int64), gT_7)) else (if (200 : Int32) < x3 then (some ((-1 : Int64), gT_7)) else (if (x3 - x2) ≤ (30 : Int32) then (bnd (f_X6_realOf gT_2 (7 : Int32) x0) (fun q_3 => if x1 = (1 : Int32) then (bnd (f_X10_findOne n gT_7 q_3 x2 x3) (fun q_9 => b_X11_train_106 n gT gT_2 q_9.2 q_9.1)) else (bnd (f_X10_findTwo n gT_7 q_3 x2 x3) (fun q_5 => b_X11_train_106 n gT gT_2 q_5.2 q_5.1)))) else (some ((-1 : Int64), gT_7)))))) else (some ((-1 : Int64), gT_7)))))
def S_X11_train_106 (l : Launch) (D : Dx) (hT : Nat) (aT : Nat → Nat) (yT : Nat → ClassId) (aT_2 : Nat → Nat) (yT_2 : Nat → ClassId) (aT_7 : Nat → Nat) (yT_7 : Nat → ClassId) (fn : Gs → Gs → Gs → UInt64 → Option (Int64 × Gs)) : Prop :=
  ∀ {p : Program} {e : Env} {s : State} {m : MethodId} {args : Array Value} {below : List Frame} {meth : Method} {c : Code} {H : Heap} {locs : List Loc} {A : Nat → Prop} {ls : Array Slot} {gT : Gs} {gT_2 : Gs} {gT_7 : Gs} {s0 : UInt64} {q : Int64 × Gs}, Cx p s m args meth c cX11_train (some .long) 8 RX11 lw_all → Hx D (tX11 yT ++ (tX6 yT_2 ++ (tX10 yT_7))) A s H locs (wX11 hT aT yT gT ++ (wX6 (aT 2) aT_2 yT_2 gT_2 ++ (wX10 (aT 7) aT_7 yT_7 gT_7))) → lv_has ls 8 [] → fn gT gT_2 gT_7 s0 = some q → W p l e R_X11_train s m args below meth c H locs 0 0 (MQ below (QL D A (wX11 hT aT yT gT ++ (wX6 (aT 2) aT_2 yT_2 gT_2 ++ (wX10 (aT 7) aT_7 yT_7 q.2))) q.1) args s 0 0 A) (F0 m 106 ls [.double s0, .ref (aT 2)])
set_option maxHeartbeats 4000000 in
set_option maxRecDepth 100000 in
theorem k_X11_train_106 (l : Launch) (D : Dx) (hT : Nat) (aT : Nat → Nat) (yT : Nat → ClassId) (aT_2 : Nat → Nat) (yT_2 : Nat → ClassId) (aT_7 : Nat → Nat) (yT_7 : Nat → ClassId) (n : Nat) : S_X11_train_106 l D hT aT yT aT_2 yT_2 aT_7 yT_7 (b_X11_train_106 n) := by
  intro p e s m args below meth c H locs A ls gT gT_2 gT_7 s0 q C X hl hF
  obtain ⟨hx, hb, hr, hml, hown, hts, hlk⟩ := id C
  unfold b_X11_train_106 at hF
  obtain ⟨q_7, hc_8, hF⟩ := bnd_some hF
  refine cV_l (As := [.double s0]) (rest := []) C X (c_X6_bits l D (aT 2) aT_2 yT_2 n gT_2 s0 q_7 hc_8 _) (cwV 1 hts (good_V q6_83 q5_182 q5_183 q1_2 q5_184) rfl rfl rfl (by decide +kernel) ⟨Nat.le_of_ble_eq_true rfl, Nat.le_of_ble_eq_true rfl⟩) (va_recv X.1 X.2.1 (ci := 6) (q0 := 1) rfl rfl) (X.1.sub (tys' := tX6 yT_2) [0] rfl) (X.2.1.sub (ws' := wX6 (aT 2) aT_2 yT_2 gT_2) [1, 2] rfl) (X.2.2.1.sub (ws' := wX6 (aT 2) aT_2 yT_2 gT_2) [1, 2] (by decide) rfl) (free_of (wC := wX6 (aT 2) aT_2 yT_2 gT_2) (isC := [1, 2]) X rfl) hl.1 rfl rfl (Nat.le_of_ble_eq_true rfl) dX11_train_106 ⟨Nat.le_of_ble_eq_true rfl, Nat.le_of_ble_eq_true rfl⟩ (fun t H1 locs1 ht hB hk hS => ?_)
  have X : Hx D (tX11 yT ++ (tX6 yT_2 ++ (tX10 yT_7))) A s H1 locs1 (wX11 hT aT yT gT ++ (wX6 (aT 2) aT_2 yT_2 gT_2 ++ (wX10 (aT 7) aT_7 yT_7 gT_7))) := Hx_after (isC := [1, 2]) (isR := [0, 3, 4]) (pm := [0, 3, 4, 1, 2]) (wr := wX11 hT aT yT gT ++ (wX10 (aT 7) aT_7 yT_7 gT_7)) X ⟨rfl, rfl, by decide, by decide, rfl, by decide⟩ ht hB hk hS
  clear hk hS ht hB
  generalize H1 = H at X ⊢
  generalize locs1 = locs at X ⊢
  have hq := Option.some.inj hF
  subst hq
  exact rt_l C X dX11_train_109
set_option maxHeartbeats 4000000 in
set_option maxRecDepth 100000 in
theorem c_X11_train (l : Launch) (D : Dx) (hT : Nat) (aT : Nat → Nat) (yT : Nat → ClassId) (aT_2 : Nat → Nat) (yT_2 : Nat → ClassId) (aT_7 : Nat → Nat) (yT_7 : Nat → ClassId) (n : Nat) (gT : Gs) (gT_2 : Gs) (gT_7 : Gs) (x0 : Int64) (x1 : Int32) (x2 : Int32) (x3 : Int32) (q : Int64 × Gs) (hF : f_X11_train n gT gT_2 gT_7 x0 x1 x2 x3 = some q) (sz : Nat) : Met l yX11_train (ws_ yX11_train cX11_train 8 (some .long)) R_X11_train (PC D (tX11 yT ++ (tX6 yT_2 ++ (tX10 yT_7))) [.ref hT, .long x0, .int x1, .int x2, .int x3] (wX11 hT aT yT gT ++ (wX6 (aT 2) aT_2 yT_2 gT_2 ++ (wX10 (aT 7) aT_7 yT_7 gT_7))) sz) (QL D (va_A (wX11 hT aT yT gT ++ (wX6 (aT 2) aT_2 yT_2 gT_2 ++ (wX10 (aT 7) aT_7 yT_7 gT_7))) sz) (wX11 hT aT yT gT ++ (wX6 (aT 2) aT_2 yT_2 gT_2 ++ (wX10 (aT 7) aT_7 yT_7 q.2))) q.1) 0 0 (va_A (wX11 hT aT yT gT ++ (wX6 (aT 2) aT_2 yT_2 gT_2 ++ (wX10 (aT 7) aT_7 yT_7 gT_7))) sz) := by
  refine Met.ofW (cc := cX11_train) (maxL := 8) (ret := (some .long)) (by decide) rfl ?_
  intro p e s m args below meth c s₁ B hml hv
  obtain ⟨rfl, hsz, hP, hK, hD, hN⟩ := hv
  subst hsz
  have C : Cx p s m _ meth c cX11_train (some .long) 8 RX11 lw_all := Cx_of B hml
  have X := Hx_start hP hK hD hN
  obtain ⟨hx, hb, hr, -, hown, hts, hlk⟩ := id C
  generalize va_A (wX11 hT aT yT gT ++ (wX6 (aT 2) aT_2 yT_2 gT_2 ++ (wX10 (aT 7) aT_7 yT_7 gT_7))) s.heap.size = A at X ⊢
  have hl := lv_entry ([.ref hT, .long x0, .int x1, .int x2, .int x3]) (n := 8) (Nat.le_of_ble_eq_true rfl)
  rw [lg_entry_eq]
  generalize (lg_sl ([.ref hT, .long x0, .int x1, .int x2, .int x3]) ++ List.replicate (8 - (lg_sl ([.ref hT, .long x0, .int x1, .int x2, .int x3])).length) Slot.unset).toArray = ls at hl ⊢
  have hl : lv_has ls 8 [(0, .ref hT), (1, .long x0), (3, .int x1), (4, .int x2), (5, .int x3)] := hl
  unfold f_X11_train at hF
  refine lv_lload_n hx hb dX11_train_0 rfl (lv_at hl 1 rfl) ?_
  obtain ⟨q_1, hc_2, hF⟩ := bnd_some hF
  refine cS_i (As := [.long x0]) (rest := []) C X (c_X11_isAboveZero l D  x0 q_1 hc_2 _) (va_cwS 1 hts (good_S q6_88 q6_89 q1_1 q6_90) rfl rfl rfl (by decide +kernel) ⟨Nat.le_of_ble_eq_true rfl, Nat.le_of_ble_eq_true rfl⟩) (eK X) eP (eD (A := A)) (eF X) hl.1 rfl rfl (Nat.le_of_ble_eq_true rfl) dX11_train_1 ⟨Nat.le_of_ble_eq_true rfl, Nat.le_of_ble_eq_true rfl⟩ (fun t H1 locs1 ht hB hk hS => ?_)
  have X := Hx_after_none X hk hS
  clear hk hS ht hB
  generalize H1 = H at X ⊢
  generalize locs1 = locs at X ⊢
  refine lv_if_eq (tgt := 17) hx hb dX11_train_4 (by decide) (fun c => ?_) (fun c => ?_)
  · replace hF := iT c hF
    refine lv_ldc2 hx hb hown (hts _ q5_231) dX11_train_17 ?_
    have hq := Option.some.inj hF
    subst hq
    exact rt_l C X dX11_train_20
  · replace hF := iF c hF
    refine lv_iload_n hx hb dX11_train_7 rfl (lv_at hl 2 rfl) ?_
    refine lv_iconst (v := (1 : Int32)) hx hb dX11_train_8 (by decide) ?_
    refine lv_icmp_lt (tgt := 17) hx hb dX11_train_9 (by decide) (fun c => ?_) (fun c => ?_)
    · replace hF := iT c hF
      refine lv_ldc2 hx hb hown (hts _ q5_231) dX11_train_17 ?_
      have hq := Option.some.inj hF
      subst hq
      exact rt_l C X dX11_train_20
    · replace hF := iF c hF
      refine lv_iload_n hx hb dX11_train_12 rfl (lv_at hl 2 rfl) ?_
      refine lv_iconst (v := (2 : Int32)) hx hb dX11_train_13 (by decide) ?_
      refine lv_icmp_le (tgt := 21) hx hb dX11_train_14 (by decide) (fun c => ?_) (fun c => ?_)
      · replace hF := iT c hF
        refine lv_iload hx hb dX11_train_21 (lv_at hl 3 rfl) ?_
        refine lv_iconst (v := (4 : Int32)) hx hb dX11_train_23 (by decide) ?_
        refine lv_icmp_lt (tgt := 52) hx hb dX11_train_24 (by decide) (fun c => ?_) (fun c => ?_)
        · replace hF := iT c hF
          refine lv_ldc2 hx hb hown (hts _ q5_231) dX11_train_52 ?_
          have hq := Option.some.inj hF
          subst hq
          exact rt_l C X dX11_train_55
        · replace hF := iF c hF
          refine lv_iload hx hb dX11_train_27 (lv_at hl 4 rfl) ?_
          refine lv_iload hx hb dX11_train_29 (lv_at hl 3 rfl) ?_
          refine lv_icmp_lt (tgt := 52) hx hb dX11_train_31 (by decide) (fun c => ?_) (fun c => ?_)
          · replace hF := iT c hF
            refine lv_ldc2 hx hb hown (hts _ q5_231) dX11_train_52 ?_
            have hq := Option.some.inj hF
            subst hq
            exact rt_l C X dX11_train_55
          · replace hF := iF c hF
            refine lv_iload hx hb dX11_train_34 (lv_at hl 4 rfl) ?_
            refine lv_sipush (v := (200 : Int32)) hx hb dX11_train_36 (by decide) ?_
            refine lv_icmp_gt (tgt := 52) hx hb dX11_train_39 (by decide) (fun c => ?_) (fun c => ?_)
            · replace hF := iT c hF
              refine lv_ldc2 hx hb hown (hts _ q5_231) dX11_train_52 ?_
              have hq := Option.some.inj hF
              subst hq
              exact rt_l C X dX11_train_55
            · replace hF := iF c hF
              refine lv_iload hx hb dX11_train_42 (lv_at hl 4 rfl) ?_
              refine lv_iload hx hb dX11_train_44 (lv_at hl 3 rfl) ?_
              refine lv_isub hx hb dX11_train_46 ?_
              refine lv_bipush (v := (30 : Int32)) hx hb dX11_train_47 (by decide) ?_
              refine lv_icmp_le (tgt := 56) hx hb dX11_train_49 (by decide) (fun c => ?_) (fun c => ?_)
              · replace hF := iT c hF
                refine lv_aload_n hx hb dX11_train_56 rfl (lv_at hl 0 rfl) ?_
                refine va_get (D := D.1) (ci := 11) (v := .ref (aT 2)) (C := RX11) (T := TX11) (N := 14) hx hb hts wi_X11 hown X.1 X.2.1 0 rfl rfl 2 (by decide) (hts _ q2_149) (fun _ h9 => h9) (fl_get (by decide)) dX11_train_57 ?_
                refine lv_bipush (v := (7 : Int32)) hx hb dX11_train_60 (by decide) ?_
                refine lv_lload_n hx hb dX11_train_62 rfl (lv_at hl 1 rfl) ?_
                obtain ⟨q_3, hc_4, hF⟩ := bnd_some hF
                refine cV_d (As := [.int (7 : Int32), .long x0]) (rest := []) C X (c_X6_realOf l D (aT 2) aT_2 yT_2 gT_2 (7 : Int32) x0 q_3 hc_4 _) (cwV 2 hts (good_V q5_213 q5_214 q5_215 q1_2 q5_216) rfl rfl rfl (by decide +kernel) ⟨Nat.le_of_ble_eq_true rfl, Nat.le_of_ble_eq_true rfl⟩) (va_recv X.1 X.2.1 (ci := 6) (q0 := 1) rfl rfl) (X.1.sub (tys' := tX6 yT_2) [0] rfl) (X.2.1.sub (ws' := wX6 (aT 2) aT_2 yT_2 gT_2) [1, 2] rfl) (X.2.2.1.sub (ws' := wX6 (aT 2) aT_2 yT_2 gT_2) [1, 2] (by decide) rfl) (free_of (wC := wX6 (aT 2) aT_2 yT_2 gT_2) (isC := [1, 2]) X rfl) hl.1 rfl rfl (Nat.le_of_ble_eq_true rfl) dX11_train_63 ⟨Nat.le_of_ble_eq_true rfl, Nat.le_of_ble_eq_true rfl⟩ (fun t H1 locs1 ht hB hk hS => ?_)
                have X : Hx D (tX11 yT ++ (tX6 yT_2 ++ (tX10 yT_7))) A s H1 locs1 (wX11 hT aT yT gT ++ (wX6 (aT 2) aT_2 yT_2 gT_2 ++ (wX10 (aT 7) aT_7 yT_7 gT_7))) := Hx_after (isC := [1, 2]) (isR := [0, 3, 4]) (pm := [0, 3, 4, 1, 2]) (wr := wX11 hT aT yT gT ++ (wX10 (aT 7) aT_7 yT_7 gT_7)) X ⟨rfl, rfl, by decide, by decide, rfl, by decide⟩ ht hB hk hS
                clear hk hS ht hB
                generalize H1 = H at X ⊢
                generalize locs1 = locs at X ⊢
                refine lv_dstore (lv' := [(6, .double q_3), (0, .ref hT), (1, .long x0), (3, .int x1), (4, .int x2), (5, .int x3)]) hx hb dX11_train_66 hl (by decide) rfl (fun ls hl => ?_)
                refine lv_aload_n hx hb dX11_train_68 rfl (lv_at hl 1 rfl) ?_
                refine va_get (D := D.1) (ci := 11) (v := .ref (aT 2)) (C := RX11) (T := TX11) (N := 14) hx hb hts wi_X11 hown X.1 X.2.1 0 rfl rfl 2 (by decide) (hts _ q2_149) (fun _ h9 => h9) (fl_get (by decide)) dX11_train_69 ?_
                refine lv_iload_n hx hb dX11_train_72 rfl (lv_at hl 3 rfl) ?_
                refine lv_iconst (v := (1 : Int32)) hx hb dX11_train_73 (by decide) ?_
                refine lv_icmp_ne (tgt := 93) hx hb dX11_train_74 (by decide) (fun c => ?_) (fun c => ?_)
                · replace hF := iF c hF
                  refine lv_aload_n hx hb dX11_train_93 rfl (lv_at hl 1 rfl) ?_
                  refine va_get (D := D.1) (ci := 11) (v := .ref (aT 7)) (C := RX11) (T := TX11) (N := 14) hx hb hts wi_X11 hown X.1 X.2.1 0 rfl rfl 7 (by decide) (hts _ q2_154) (fun _ h9 => h9) (fl_get (by decide)) dX11_train_94 ?_
                  refine lv_dload hx hb dX11_train_97 (lv_at hl 0 rfl) ?_
                  refine lv_iload hx hb dX11_train_99 (lv_at hl 4 rfl) ?_
                  refine lv_iload hx hb dX11_train_101 (lv_at hl 5 rfl) ?_
                  obtain ⟨q_5, hc_6, hF⟩ := bnd_some hF
                  refine cV_d (As := [.double q_3, .int x2, .int x3]) (rest := [.ref (aT 2)]) C X (c_X10_findTwo l D (aT 7) aT_7 yT_7 n gT_7 q_3 x2 x3 q_5 hc_6 _) (cwV 3 hts (good_V q6_111 q6_112 q6_113 q1_6 q6_114) rfl rfl rfl (by decide +kernel) ⟨Nat.le_of_ble_eq_true rfl, Nat.le_of_ble_eq_true rfl⟩) (va_recv X.1 X.2.1 (ci := 10) (q0 := 3) rfl rfl) (X.1.sub (tys' := tX10 yT_7) [1] rfl) (X.2.1.sub (ws' := wX10 (aT 7) aT_7 yT_7 gT_7) [3, 4] rfl) (X.2.2.1.sub (ws' := wX10 (aT 7) aT_7 yT_7 gT_7) [3, 4] (by decide) rfl) (free_of (wC := wX10 (aT 7) aT_7 yT_7 gT_7) (isC := [3, 4]) X rfl) hl.1 rfl rfl (Nat.le_of_ble_eq_true rfl) dX11_train_103 ⟨Nat.le_of_ble_eq_true rfl, Nat.le_of_ble_eq_true rfl⟩ (fun t H1 locs1 ht hB hk hS => ?_)
                  have X : Hx D (tX11 yT ++ (tX6 yT_2 ++ (tX10 yT_7))) A s H1 locs1 (wX11 hT aT yT gT ++ (wX6 (aT 2) aT_2 yT_2 gT_2 ++ (wX10 (aT 7) aT_7 yT_7 q_5.2))) := Hx_after (isC := [3, 4]) (isR := [0, 1, 2]) (pm := [0, 1, 2, 3, 4]) (wr := wX11 hT aT yT gT ++ (wX6 (aT 2) aT_2 yT_2 gT_2)) X ⟨rfl, rfl, by decide, by decide, rfl, by decide⟩ ht hB hk hS
                  clear hk hS ht hB
                  generalize H1 = H at X ⊢
                  generalize locs1 = locs at X ⊢
                  exact (k_X11_train_106 l D hT aT yT aT_2 yT_2 aT_7 yT_7 n) C X (lv_sub hl [] rfl) hF
                · replace hF := iT c hF
                  refine lv_aload_n hx hb dX11_train_77 rfl (lv_at hl 1 rfl) ?_
                  refine va_get (D := D.1) (ci := 11) (v := .ref (aT 7)) (C := RX11) (T := TX11) (N := 14) hx hb hts wi_X11 hown X.1 X.2.1 0 rfl rfl 7 (by decide) (hts _ q2_154) (fun _ h9 => h9) (fl_get (by decide)) dX11_train_78 ?_
                  refine lv_dload hx hb dX11_train_81 (lv_at hl 0 rfl) ?_
                  refine lv_iload hx hb dX11_train_83 (lv_at hl 4 rfl) ?_
                  refine lv_iload hx hb dX11_train_85 (lv_at hl 5 rfl) ?_
                  obtain ⟨q_9, hc_10, hF⟩ := bnd_some hF
                  refine cV_d (As := [.double q_3, .int x2, .int x3]) (rest := [.ref (aT 2)]) C X (c_X10_findOne l D (aT 7) aT_7 yT_7 n gT_7 q_3 x2 x3 q_9 hc_10 _) (cwV 3 hts (good_V q6_96 q6_97 q6_98 q1_6 q6_99) rfl rfl rfl (by decide +kernel) ⟨Nat.le_of_ble_eq_true rfl, Nat.le_of_ble_eq_true rfl⟩) (va_recv X.1 X.2.1 (ci := 10) (q0 := 3) rfl rfl) (X.1.sub (tys' := tX10 yT_7) [1] rfl) (X.2.1.sub (ws' := wX10 (aT 7) aT_7 yT_7 gT_7) [3, 4] rfl) (X.2.2.1.sub (ws' := wX10 (aT 7) aT_7 yT_7 gT_7) [3, 4] (by decide) rfl) (free_of (wC := wX10 (aT 7) aT_7 yT_7 gT_7) (isC := [3, 4]) X rfl) hl.1 rfl rfl (Nat.le_of_ble_eq_true rfl) dX11_train_87 ⟨Nat.le_of_ble_eq_true rfl, Nat.le_of_ble_eq_true rfl⟩ (fun t H1 locs1 ht hB hk hS => ?_)
                  have X : Hx D (tX11 yT ++ (tX6 yT_2 ++ (tX10 yT_7))) A s H1 locs1 (wX11 hT aT yT gT ++ (wX6 (aT 2) aT_2 yT_2 gT_2 ++ (wX10 (aT 7) aT_7 yT_7 q_9.2))) := Hx_after (isC := [3, 4]) (isR := [0, 1, 2]) (pm := [0, 1, 2, 3, 4]) (wr := wX11 hT aT yT gT ++ (wX6 (aT 2) aT_2 yT_2 gT_2)) X ⟨rfl, rfl, by decide, by decide, rfl, by decide⟩ ht hB hk hS
                  clear hk hS ht hB
                  generalize H1 = H at X ⊢
                  generalize locs1 = locs at X ⊢
                  refine lv_goto (tgt := 106) hx hb dX11_train_90 (by decide) ?_
                  exact (k_X11_train_106 l D hT aT yT aT_2 yT_2 aT_7 yT_7 n) C X (lv_sub hl [] rfl) hF
              · replace hF := iF c hF
                refine lv_ldc2 hx hb hown (hts _ q5_231) dX11_train_52 ?_
                have hq := Option.some.inj hF
                subst hq
                exact rt_l C X dX11_train_55
      · replace hF := iF c hF
        refine lv_ldc2 hx hb hown (hts _ q5_231) dX11_train_17 ?_
        have hq := Option.some.inj hF
        subst hq
        exact rt_l C X dX11_train_20

/-! ### X11_wheel -/
theorem dX11_wheel_0 : decode cX11_wheel 0 = .ok (.iload_n 1, 1) := by decide +kernel
theorem dX11_wheel_1 : decode cX11_wheel 1 = .ok (.ifCond .lt 26, 3) := by decide +kernel
theorem dX11_wheel_4 : decode cX11_wheel 4 = .ok (.iload_n 1, 1) := by decide +kernel
theorem dX11_wheel_5 : decode cX11_wheel 5 = .ok (.aload_n 0, 1) := by decide +kernel
theorem dX11_wheel_6 : decode cX11_wheel 6 = .ok (.getfield 56, 3) := by decide +kernel
theorem dX11_wheel_9 : decode cX11_wheel 9 = .ok (.getfield 142, 3) := by decide +kernel
theorem dX11_wheel_12 : decode cX11_wheel 12 = .ok (.if_icmp .ge 15, 3) := by decide +kernel
theorem dX11_wheel_15 : decode cX11_wheel 15 = .ok (.aload_n 0, 1) := by decide +kernel
theorem dX11_wheel_16 : decode cX11_wheel 16 = .ok (.getfield 56, 3) := by decide +kernel
theorem dX11_wheel_19 : decode cX11_wheel 19 = .ok (.getfield 311, 3) := by decide +kernel
theorem dX11_wheel_22 : decode cX11_wheel 22 = .ok (.iload_n 1, 1) := by decide +kernel
theorem dX11_wheel_23 : decode cX11_wheel 23 = .ok (.iaload, 1) := by decide +kernel
theorem dX11_wheel_24 : decode cX11_wheel 24 = .ok (.goto 4, 3) := by decide +kernel
theorem dX11_wheel_27 : decode cX11_wheel 27 = .ok (.iconst 0, 1) := by decide +kernel
theorem dX11_wheel_28 : decode cX11_wheel 28 = .ok (.ireturn, 1) := by decide +kernel
abbrev R_X11_wheel : Room := ({ frames := 0, cells := 0, slots := 0, locals := 0 } : Room)
def f_X11_wheel (gT : Gs) (gT_7 : Gs) (x0 : Int32) : Option (Int32) :=
  if x0 < 0 then (some (0 : Int32)) else (if (gI gT_7 1) ≤ x0 then (some (0 : Int32)) else (grd (inB x0 4) (some (gIA gT_7 0 x0.toNatClampNeg))))
set_option maxHeartbeats 4000000 in
set_option maxRecDepth 100000 in
theorem c_X11_wheel (l : Launch) (D : Dx) (hT : Nat) (aT : Nat → Nat) (yT : Nat → ClassId) (aT_7 : Nat → Nat) (yT_7 : Nat → ClassId) (gT : Gs) (gT_7 : Gs) (x0 : Int32) (q : Int32) (hF : f_X11_wheel gT gT_7 x0 = some q) (sz : Nat) : Met l yX11_wheel (ws_ yX11_wheel cX11_wheel 2 (some .int)) R_X11_wheel (PC D (tX11 yT ++ (tX10 yT_7)) [.ref hT, .int x0] (wX11 hT aT yT gT ++ (wX10 (aT 7) aT_7 yT_7 gT_7)) sz) (QI D (va_A (wX11 hT aT yT gT ++ (wX10 (aT 7) aT_7 yT_7 gT_7)) sz) (wX11 hT aT yT gT ++ (wX10 (aT 7) aT_7 yT_7 gT_7)) q) 0 0 (va_A (wX11 hT aT yT gT ++ (wX10 (aT 7) aT_7 yT_7 gT_7)) sz) := by
  refine Met.ofW (cc := cX11_wheel) (maxL := 2) (ret := (some .int)) (by decide) rfl ?_
  intro p e s m args below meth c s₁ B hml hv
  obtain ⟨rfl, hsz, hP, hK, hD, hN⟩ := hv
  subst hsz
  have C : Cx p s m _ meth c cX11_wheel (some .int) 2 RX11 lw_all := Cx_of B hml
  have X := Hx_start hP hK hD hN
  obtain ⟨hx, hb, hr, -, hown, hts, hlk⟩ := id C
  generalize va_A (wX11 hT aT yT gT ++ (wX10 (aT 7) aT_7 yT_7 gT_7)) s.heap.size = A at X ⊢
  have hl := lv_entry ([.ref hT, .int x0]) (n := 2) (Nat.le_of_ble_eq_true rfl)
  rw [lg_entry_eq]
  generalize (lg_sl ([.ref hT, .int x0]) ++ List.replicate (2 - (lg_sl ([.ref hT, .int x0])).length) Slot.unset).toArray = ls at hl ⊢
  have hl : lv_has ls 2 [(0, .ref hT), (1, .int x0)] := hl
  unfold f_X11_wheel at hF
  refine lv_iload_n hx hb dX11_wheel_0 rfl (lv_at hl 1 rfl) ?_
  refine lv_if_lt (tgt := 27) hx hb dX11_wheel_1 (by decide) (fun c => ?_) (fun c => ?_)
  · replace hF := iT c hF
    refine lv_iconst (v := (0 : Int32)) hx hb dX11_wheel_27 (by decide) ?_
    have hq := Option.some.inj hF
    subst hq
    exact rt_i C X dX11_wheel_28
  · replace hF := iF c hF
    refine lv_iload_n hx hb dX11_wheel_4 rfl (lv_at hl 1 rfl) ?_
    refine lv_aload_n hx hb dX11_wheel_5 rfl (lv_at hl 0 rfl) ?_
    refine va_get (D := D.1) (ci := 11) (v := .ref (aT 7)) (C := RX11) (T := TX11) (N := 14) hx hb hts wi_X11 hown X.1 X.2.1 0 rfl rfl 7 (by decide) (hts _ q2_154) (fun _ h9 => h9) (fl_get (by decide)) dX11_wheel_6 ?_
    refine va_getN (D := D.1) (ci := 10) (v := .int (gI gT_7 1)) (C := RX10) (T := TX10) (N := 2) hx hb hts wi_X10 hown X.1 X.2.1 1 rfl rfl 1 (by decide) (X.2.2.2.2.2.1.use q1_189 rfl) (fun _ h9 => h9) (fl_get (by decide)) dX11_wheel_9 ?_
    refine lv_icmp_ge (tgt := 27) hx hb dX11_wheel_12 (by decide) (fun c => ?_) (fun c => ?_)
    · replace hF := iT c hF
      refine lv_iconst (v := (0 : Int32)) hx hb dX11_wheel_27 (by decide) ?_
      have hq := Option.some.inj hF
      subst hq
      exact rt_i C X dX11_wheel_28
    · replace hF := iF c hF
      refine lv_aload_n hx hb dX11_wheel_15 rfl (lv_at hl 0 rfl) ?_
      refine va_get (D := D.1) (ci := 11) (v := .ref (aT 7)) (C := RX11) (T := TX11) (N := 14) hx hb hts wi_X11 hown X.1 X.2.1 0 rfl rfl 7 (by decide) (hts _ q2_154) (fun _ h9 => h9) (fl_get (by decide)) dX11_wheel_16 ?_
      refine va_getN (D := D.1) (ci := 10) (v := .ref (aT_7 0)) (C := RX10) (T := TX10) (N := 2) hx hb hts wi_X10 hown X.1 X.2.1 1 rfl rfl 0 (by decide) (X.2.2.2.2.2.1.use q1_187 rfl) (fun _ h9 => h9) (fl_get (by decide)) dX11_wheel_19 ?_
      refine lv_iload_n hx hb dX11_wheel_22 rfl (lv_at hl 1 rfl) ?_
      obtain ⟨h_1, hF⟩ := grd_some hF
      refine va_iald (D := D.1) (f := gIA gT_7 0) hx hb X.1 X.2.1 2 0 rfl rfl (inB_ok h_1) dX11_wheel_23 ?_
      refine lv_goto (tgt := 28) hx hb dX11_wheel_24 (by decide) ?_
      have hq := Option.some.inj hF
      subst hq
      exact rt_i C X dX11_wheel_28

/-! ### X11_date -/
theorem dX11_date_0 : decode cX11_date 0 = .ok (.iload_n 3, 1) := by decide +kernel
theorem dX11_date_1 : decode cX11_date 1 = .ok (.ifCond .lt 15, 3) := by decide +kernel
theorem dX11_date_4 : decode cX11_date 4 = .ok (.iload_n 3, 1) := by decide +kernel
theorem dX11_date_5 : decode cX11_date 5 = .ok (.iconst 4, 1) := by decide +kernel
theorem dX11_date_6 : decode cX11_date 6 = .ok (.if_icmp .gt 10, 3) := by decide +kernel
theorem dX11_date_9 : decode cX11_date 9 = .ok (.lload_n 1, 1) := by decide +kernel
theorem dX11_date_10 : decode cX11_date 10 = .ok (.invokestatic 203, 3) := by decide +kernel
theorem dX11_date_13 : decode cX11_date 13 = .ok (.ifCond .ne 7, 3) := by decide +kernel
theorem dX11_date_16 : decode cX11_date 16 = .ok (.ldc_w 314, 3) := by decide +kernel
theorem dX11_date_19 : decode cX11_date 19 = .ok (.ireturn, 1) := by decide +kernel
theorem dX11_date_20 : decode cX11_date 20 = .ok (.aload_n 0, 1) := by decide +kernel
theorem dX11_date_21 : decode cX11_date 21 = .ok (.getfield 20, 3) := by decide +kernel
theorem dX11_date_24 : decode cX11_date 24 = .ok (.bipush 7, 2) := by decide +kernel
theorem dX11_date_26 : decode cX11_date 26 = .ok (.lload_n 1, 1) := by decide +kernel
theorem dX11_date_27 : decode cX11_date 27 = .ok (.invokevirtual 214, 3) := by decide +kernel
theorem dX11_date_30 : decode cX11_date 30 = .ok (.invokestatic 277, 3) := by decide +kernel
theorem dX11_date_33 : decode cX11_date 33 = .ok (.d2l, 1) := by decide +kernel
theorem dX11_date_34 : decode cX11_date 34 = .ok (.lstore 4, 2) := by decide +kernel
theorem dX11_date_36 : decode cX11_date 36 = .ok (.lload 4, 2) := by decide +kernel
theorem dX11_date_38 : decode cX11_date 38 = .ok (.ldc2_w 315, 3) := by decide +kernel
theorem dX11_date_41 : decode cX11_date 41 = .ok (.lcmp, 1) := by decide +kernel
theorem dX11_date_42 : decode cX11_date 42 = .ok (.ifCond .lt 12, 3) := by decide +kernel
theorem dX11_date_45 : decode cX11_date 45 = .ok (.lload 4, 2) := by decide +kernel
theorem dX11_date_47 : decode cX11_date 47 = .ok (.ldc2_w 317, 3) := by decide +kernel
theorem dX11_date_50 : decode cX11_date 50 = .ok (.lcmp, 1) := by decide +kernel
theorem dX11_date_51 : decode cX11_date 51 = .ok (.ifCond .le 7, 3) := by decide +kernel
theorem dX11_date_54 : decode cX11_date 54 = .ok (.ldc_w 314, 3) := by decide +kernel
theorem dX11_date_57 : decode cX11_date 57 = .ok (.ireturn, 1) := by decide +kernel
theorem dX11_date_58 : decode cX11_date 58 = .ok (.iload_n 3, 1) := by decide +kernel
theorem dX11_date_59 : decode cX11_date 59 = .ok (.iconst 3, 1) := by decide +kernel
theorem dX11_date_60 : decode cX11_date 60 = .ok (.if_icmp .ne 19, 3) := by decide +kernel
theorem dX11_date_63 : decode cX11_date 63 = .ok (.lload 4, 2) := by decide +kernel
theorem dX11_date_65 : decode cX11_date 65 = .ok (.ldc2_w 319, 3) := by decide +kernel
theorem dX11_date_68 : decode cX11_date 68 = .ok (.ladd, 1) := by decide +kernel
theorem dX11_date_69 : decode cX11_date 69 = .ok (.ldc2_w 321, 3) := by decide +kernel
theorem dX11_date_72 : decode cX11_date 72 = .ok (.invokestatic 323, 3) := by decide +kernel
theorem dX11_date_75 : decode cX11_date 75 = .ok (.l2i, 1) := by decide +kernel
theorem dX11_date_76 : decode cX11_date 76 = .ok (.goto 10, 3) := by decide +kernel
theorem dX11_date_79 : decode cX11_date 79 = .ok (.lload 4, 2) := by decide +kernel
theorem dX11_date_81 : decode cX11_date 81 = .ok (.l2i, 1) := by decide +kernel
theorem dX11_date_82 : decode cX11_date 82 = .ok (.iload_n 3, 1) := by decide +kernel
theorem dX11_date_83 : decode cX11_date 83 = .ok (.invokestatic 326, 3) := by decide +kernel
theorem dX11_date_86 : decode cX11_date 86 = .ok (.ireturn, 1) := by decide +kernel
abbrev R_X11_date : Room := ({ frames := 3, cells := 0, slots := 0, locals := 116 } : Room)
def f_X11_date (gT : Gs) (gT_2 : Gs) (x0 : Int64) (x1 : Int32) : Option (Int32) :=
  if x1 < 0 then (some (-1000000000 : Int32)) else (if (4 : Int32) < x1 then (some (-1000000000 : Int32)) else (bnd (f_X6_isFinite x0) (fun q_1 => if q_1 = 0 then (some (-1000000000 : Int32)) else (bnd (f_X6_realOf gT_2 (7 : Int32) x0) (fun q_3 => bnd (f_X6_floorOf q_3) (fun q_5 => if (FP.d2l q_5) < (-100000000 : Int64) then (some (-1000000000 : Int32)) else (if (FP.d2l q_5) ≤ (100000000 : Int64) then (if x1 = (3 : Int32) then (bnd (f_J9_floorMod_f86c9 ((FP.d2l q_5) + (3 : Int64)) (7 : Int64)) (fun q_9 => some q_9.toInt32)) else (bnd (f_X11_dateOf ((FP.d2l q_5).toInt32) x1) (fun q_7 => some q_7))) else (some (-1000000000 : Int32)))))))))
set_option maxHeartbeats 4000000 in
set_option maxRecDepth 100000 in
theorem c_X11_date (l : Launch) (D : Dx) (hT : Nat) (aT : Nat → Nat) (yT : Nat → ClassId) (aT_2 : Nat → Nat) (yT_2 : Nat → ClassId) (gT : Gs) (gT_2 : Gs) (x0 : Int64) (x1 : Int32) (q : Int32) (hF : f_X11_date gT gT_2 x0 x1 = some q) (sz : Nat) : Met l yX11_date (ws_ yX11_date cX11_date 6 (some .int)) R_X11_date (PC D (tX11 yT ++ (tX6 yT_2)) [.ref hT, .long x0, .int x1] (wX11 hT aT yT gT ++ (wX6 (aT 2) aT_2 yT_2 gT_2)) sz) (QI D (va_A (wX11 hT aT yT gT ++ (wX6 (aT 2) aT_2 yT_2 gT_2)) sz) (wX11 hT aT yT gT ++ (wX6 (aT 2) aT_2 yT_2 gT_2)) q) 0 0 (va_A (wX11 hT aT yT gT ++ (wX6 (aT 2) aT_2 yT_2 gT_2)) sz) := by
  refine Met.ofW (cc := cX11_date) (maxL := 6) (ret := (some .int)) (by decide) rfl ?_
  intro p e s m args below meth c s₁ B hml hv
  obtain ⟨rfl, hsz, hP, hK, hD, hN⟩ := hv
  subst hsz
  have C : Cx p s m _ meth c cX11_date (some .int) 6 RX11 lw_all := Cx_of B hml
  have X := Hx_start hP hK hD hN
  obtain ⟨hx, hb, hr, -, hown, hts, hlk⟩ := id C
  generalize va_A (wX11 hT aT yT gT ++ (wX6 (aT 2) aT_2 yT_2 gT_2)) s.heap.size = A at X ⊢
  have hl := lv_entry ([.ref hT, .long x0, .int x1]) (n := 6) (Nat.le_of_ble_eq_true rfl)
  rw [lg_entry_eq]
  generalize (lg_sl ([.ref hT, .long x0, .int x1]) ++ List.replicate (6 - (lg_sl ([.ref hT, .long x0, .int x1])).length) Slot.unset).toArray = ls at hl ⊢
  have hl : lv_has ls 6 [(0, .ref hT), (1, .long x0), (3, .int x1)] := hl
  unfold f_X11_date at hF
  refine lv_iload_n hx hb dX11_date_0 rfl (lv_at hl 2 rfl) ?_
  refine lv_if_lt (tgt := 16) hx hb dX11_date_1 (by decide) (fun c => ?_) (fun c => ?_)
  · replace hF := iT c hF
    refine lv_ldcw hx hb hown (hts _ q6_126) dX11_date_16 ?_
    have hq := Option.some.inj hF
    subst hq
    exact rt_i C X dX11_date_19
  · replace hF := iF c hF
    refine lv_iload_n hx hb dX11_date_4 rfl (lv_at hl 2 rfl) ?_
    refine lv_iconst (v := (4 : Int32)) hx hb dX11_date_5 (by decide) ?_
    refine lv_icmp_gt (tgt := 16) hx hb dX11_date_6 (by decide) (fun c => ?_) (fun c => ?_)
    · replace hF := iT c hF
      refine lv_ldcw hx hb hown (hts _ q6_126) dX11_date_16 ?_
      have hq := Option.some.inj hF
      subst hq
      exact rt_i C X dX11_date_19
    · replace hF := iF c hF
      refine lv_lload_n hx hb dX11_date_9 rfl (lv_at hl 1 rfl) ?_
      obtain ⟨q_1, hc_2, hF⟩ := bnd_some hF
      refine cS_i (As := [.long x0]) (rest := []) C X (c_X6_isFinite l D  x0 q_1 hc_2 _) (va_cwS 1 hts (good_S q5_204 q5_205 q1_2 q5_206) rfl rfl rfl (by decide +kernel) ⟨Nat.le_of_ble_eq_true rfl, Nat.le_of_ble_eq_true rfl⟩) (eK X) eP (eD (A := A)) (eF X) hl.1 rfl rfl (Nat.le_of_ble_eq_true rfl) dX11_date_10 ⟨Nat.le_of_ble_eq_true rfl, Nat.le_of_ble_eq_true rfl⟩ (fun t H1 locs1 ht hB hk hS => ?_)
      have X := Hx_after_none X hk hS
      clear hk hS ht hB
      generalize H1 = H at X ⊢
      generalize locs1 = locs at X ⊢
      refine lv_if_ne (tgt := 20) hx hb dX11_date_13 (by decide) (fun c => ?_) (fun c => ?_)
      · replace hF := iF c hF
        refine lv_aload_n hx hb dX11_date_20 rfl (lv_at hl 0 rfl) ?_
        refine va_get (D := D.1) (ci := 11) (v := .ref (aT 2)) (C := RX11) (T := TX11) (N := 14) hx hb hts wi_X11 hown X.1 X.2.1 0 rfl rfl 2 (by decide) (hts _ q2_149) (fun _ h9 => h9) (fl_get (by decide)) dX11_date_21 ?_
        refine lv_bipush (v := (7 : Int32)) hx hb dX11_date_24 (by decide) ?_
        refine lv_lload_n hx hb dX11_date_26 rfl (lv_at hl 1 rfl) ?_
        obtain ⟨q_3, hc_4, hF⟩ := bnd_some hF
        refine cV_d (As := [.int (7 : Int32), .long x0]) (rest := []) C X (c_X6_realOf l D (aT 2) aT_2 yT_2 gT_2 (7 : Int32) x0 q_3 hc_4 _) (cwV 2 hts (good_V q5_213 q5_214 q5_215 q1_2 q5_216) rfl rfl rfl (by decide +kernel) ⟨Nat.le_of_ble_eq_true rfl, Nat.le_of_ble_eq_true rfl⟩) (va_recv X.1 X.2.1 (ci := 6) (q0 := 1) rfl rfl) (X.1.sub (tys' := tX6 yT_2) [0] rfl) (X.2.1.sub (ws' := wX6 (aT 2) aT_2 yT_2 gT_2) [1, 2] rfl) (X.2.2.1.sub (ws' := wX6 (aT 2) aT_2 yT_2 gT_2) [1, 2] (by decide) rfl) (free_of (wC := wX6 (aT 2) aT_2 yT_2 gT_2) (isC := [1, 2]) X rfl) hl.1 rfl rfl (Nat.le_of_ble_eq_true rfl) dX11_date_27 ⟨Nat.le_of_ble_eq_true rfl, Nat.le_of_ble_eq_true rfl⟩ (fun t H1 locs1 ht hB hk hS => ?_)
        have X : Hx D (tX11 yT ++ (tX6 yT_2)) A s H1 locs1 (wX11 hT aT yT gT ++ (wX6 (aT 2) aT_2 yT_2 gT_2)) := Hx_after (isC := [1, 2]) (isR := [0]) (pm := [0, 1, 2]) (wr := wX11 hT aT yT gT) X ⟨rfl, rfl, by decide, by decide, rfl, by decide⟩ ht hB hk hS
        clear hk hS ht hB
        generalize H1 = H at X ⊢
        generalize locs1 = locs at X ⊢
        obtain ⟨q_5, hc_6, hF⟩ := bnd_some hF
        refine cS_d (As := [.double q_3]) (rest := []) C X (c_X6_floorOf l D  q_3 q_5 hc_6 _) (va_cwS 1 hts (good_S q6_68 q5_68 q1_2 q5_69) rfl rfl rfl (by decide +kernel) ⟨Nat.le_of_ble_eq_true rfl, Nat.le_of_ble_eq_true rfl⟩) (eK X) eP (eD (A := A)) (eF X) hl.1 rfl rfl (Nat.le_of_ble_eq_true rfl) dX11_date_30 ⟨Nat.le_of_ble_eq_true rfl, Nat.le_of_ble_eq_true rfl⟩ (fun t H1 locs1 ht hB hk hS => ?_)
        have X := Hx_after_none X hk hS
        clear hk hS ht hB
        generalize H1 = H at X ⊢
        generalize locs1 = locs at X ⊢
        refine lv_d2l hx hb dX11_date_33 ?_
        refine lv_lstore (lv' := [(4, .long (FP.d2l q_5)), (0, .ref hT), (1, .long x0), (3, .int x1)]) hx hb dX11_date_34 hl (by decide) rfl (fun ls hl => ?_)
        refine lv_lload hx hb dX11_date_36 (lv_at hl 0 rfl) ?_
        refine lv_ldc2 hx hb hown (hts _ q6_127) dX11_date_38 ?_
        refine W.lcmp hx hb dX11_date_41 ?_
        refine lv_if_lt (tgt := 54) hx hb dX11_date_42 (by decide) (fun c => ?_) (fun c => ?_)
        · have c := (lg_cmp_lt _ _).mp c
          replace hF := iT c hF
          refine lv_ldcw hx hb hown (hts _ q6_126) dX11_date_54 ?_
          have hq := Option.some.inj hF
          subst hq
          exact rt_i C X dX11_date_57
        · have c := fun h => c ((lg_cmp_lt _ _).mpr h)
          replace hF := iF c hF
          refine lv_lload hx hb dX11_date_45 (lv_at hl 0 rfl) ?_
          refine lv_ldc2 hx hb hown (hts _ q6_128) dX11_date_47 ?_
          refine W.lcmp hx hb dX11_date_50 ?_
          refine lv_if_le (tgt := 58) hx hb dX11_date_51 (by decide) (fun c => ?_) (fun c => ?_)
          · have c := (lg_cmp_le _ _).mp c
            replace hF := iT c hF
            refine lv_iload_n hx hb dX11_date_58 rfl (lv_at hl 3 rfl) ?_
            refine lv_iconst (v := (3 : Int32)) hx hb dX11_date_59 (by decide) ?_
            refine lv_icmp_ne (tgt := 79) hx hb dX11_date_60 (by decide) (fun c => ?_) (fun c => ?_)
            · replace hF := iF c hF
              refine lv_lload hx hb dX11_date_79 (lv_at hl 0 rfl) ?_
              refine lv_l2i hx hb dX11_date_81 rfl ?_
              refine lv_iload_n hx hb dX11_date_82 rfl (lv_at hl 3 rfl) ?_
              obtain ⟨q_7, hc_8, hF⟩ := bnd_some hF
              refine cS_i (As := [.int ((FP.d2l q_5).toInt32), .int x1]) (rest := []) C X (c_X11_dateOf l D  ((FP.d2l q_5).toInt32) x1 q_7 hc_8 _) (va_cwS 2 hts (good_S q6_134 q6_135 q1_1 q6_136) rfl rfl rfl (by decide +kernel) ⟨Nat.le_of_ble_eq_true rfl, Nat.le_of_ble_eq_true rfl⟩) (eK X) eP (eD (A := A)) (eF X) hl.1 rfl rfl (Nat.le_of_ble_eq_true rfl) dX11_date_83 ⟨Nat.le_of_ble_eq_true rfl, Nat.le_of_ble_eq_true rfl⟩ (fun t H1 locs1 ht hB hk hS => ?_)
              have X := Hx_after_none X hk hS
              clear hk hS ht hB
              generalize H1 = H at X ⊢
              generalize locs1 = locs at X ⊢
              have hq := Option.some.inj hF
              subst hq
              exact rt_i C X dX11_date_86
            · replace hF := iT c hF
              refine lv_lload hx hb dX11_date_63 (lv_at hl 0 rfl) ?_
              refine lv_ldc2 hx hb hown (hts _ q6_129) dX11_date_65 ?_
              refine lv_ladd hx hb dX11_date_68 ?_
              refine lv_ldc2 hx hb hown (hts _ q6_130) dX11_date_69 ?_
              obtain ⟨q_9, hc_10, hF⟩ := bnd_some hF
              refine cS_l (As := [.long ((FP.d2l q_5) + (3 : Int64)), .long (7 : Int64)]) (rest := []) C X (c_J9_floorMod_f86c9 l D  ((FP.d2l q_5) + (3 : Int64)) (7 : Int64) q_9 hc_10 _) (va_cwS 2 hts (good_S q6_131 q6_132 q1_14 q6_133) rfl rfl rfl (by decide +kernel) ⟨Nat.le_of_ble_eq_true rfl, Nat.le_of_ble_eq_true rfl⟩) (eK X) eP (eD (A := A)) (eF X) hl.1 rfl rfl (Nat.le_of_ble_eq_true rfl) dX11_date_72 ⟨Nat.le_of_ble_eq_true rfl, Nat.le_of_ble_eq_true rfl⟩ (fun t H1 locs1 ht hB hk hS => ?_)
              have X := Hx_after_none X hk hS
              clear hk hS ht hB
              generalize H1 = H at X ⊢
              generalize locs1 = locs at X ⊢
              refine lv_l2i hx hb dX11_date_75 rfl ?_
              refine lv_goto (tgt := 86) hx hb dX11_date_76 (by decide) ?_
              have hq := Option.some.inj hF
              subst hq
              exact rt_i C X dX11_date_86
          · have c := fun h => c ((lg_cmp_le _ _).mpr h)
            replace hF := iF c hF
            refine lv_ldcw hx hb hown (hts _ q6_126) dX11_date_54 ?_
            have hq := Option.some.inj hF
            subst hq
            exact rt_i C X dX11_date_57
      · replace hF := iT c hF
        refine lv_ldcw hx hb hown (hts _ q6_126) dX11_date_16 ?_
        have hq := Option.some.inj hF
        subst hq
        exact rt_i C X dX11_date_19
