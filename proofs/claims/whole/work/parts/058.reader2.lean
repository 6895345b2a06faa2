theorem q1_238 : Cond.fieldLinkNest RX5 212 "TurningHall$Code" "size" "I" "TurningHall" ∈ lw_tbl := tc_1 (List.mem_of_getElem? (i := 238) rfl)
theorem q2_27 : Cond.fieldLinkNest RX5 172 "TurningHall$Code" "formulas" "I" "TurningHall" ∈ lw_tbl := tc_2 (List.mem_of_getElem? (i := 27) rfl)
theorem q2_5 : Cond.fieldLinkNest RX5 223 "TurningHall$Code" "from" "[I" "TurningHall" ∈ lw_tbl := tc_2 (List.mem_of_getElem? (i := 5) rfl)
theorem q2_7 : Cond.fieldLinkNest RX5 226 "TurningHall$Code" "to" "[I" "TurningHall" ∈ lw_tbl := tc_2 (List.mem_of_getElem? (i := 7) rfl)
theorem q2_10 : Cond.fieldLinkNest RX5 229 "TurningHall$Code" "owner" "[I" "TurningHall" ∈ lw_tbl := tc_2 (List.mem_of_getElem? (i := 10) rfl)
theorem q2_13 : Cond.fieldLinkNest RX5 232 "TurningHall$Code" "sign" "[I" "TurningHall" ∈ lw_tbl := tc_2 (List.mem_of_getElem? (i := 13) rfl)
theorem q2_16 : Cond.fieldLinkNest RX5 235 "TurningHall$Code" "thingsAhead" "[I" "TurningHall" ∈ lw_tbl := tc_2 (List.mem_of_getElem? (i := 16) rfl)
theorem q2_19 : Cond.fieldLinkNest RX5 238 "TurningHall$Code" "camsAhead" "[I" "TurningHall" ∈ lw_tbl := tc_2 (List.mem_of_getElem? (i := 19) rfl)
theorem q4_160 : Cond.methodLink RX5 220 yX5_readBehind ∈ lw_all := lw_in (tc_4 (List.mem_of_getElem? (i := 160) rfl)) rfl
theorem q4_162 : Cond.instanceMethod yX5_readBehind ∈ lw_all := lw_in (tc_4 (List.mem_of_getElem? (i := 162) rfl)) rfl
theorem q0_32 : Cond.selects RX5 yX5_readBehind yX5_readBehind ∈ lw_all := lw_in (tc_0 (List.mem_of_getElem? (i := 32) rfl)) rfl
theorem q4_163 : Cond.code yX5_readBehind cX5_readBehind 3 (some .int) ∈ lw_all := lw_in (tc_4 (List.mem_of_getElem? (i := 163) rfl)) rfl
theorem q4_152 : Cond.methodLink RX5 217 yX5_readPart ∈ lw_all := lw_in (tc_4 (List.mem_of_getElem? (i := 152) rfl)) rfl
theorem q4_154 : Cond.instanceMethod yX5_readPart ∈ lw_all := lw_in (tc_4 (List.mem_of_getElem? (i := 154) rfl)) rfl
theorem q0_30 : Cond.selects RX5 yX5_readPart yX5_readPart ∈ lw_all := lw_in (tc_0 (List.mem_of_getElem? (i := 30) rfl)) rfl
theorem q4_155 : Cond.code yX5_readPart cX5_readPart 2 (some .int) ∈ lw_all := lw_in (tc_4 (List.mem_of_getElem? (i := 155) rfl)) rfl
theorem q4_86 : Cond.methodLink RX5 213 yX5_readSign ∈ lw_all := lw_in (tc_4 (List.mem_of_getElem? (i := 86) rfl)) rfl
theorem q4_88 : Cond.instanceMethod yX5_readSign ∈ lw_all := lw_in (tc_4 (List.mem_of_getElem? (i := 88) rfl)) rfl
theorem q0_16 : Cond.selects RX5 yX5_readSign yX5_readSign ∈ lw_all := lw_in (tc_0 (List.mem_of_getElem? (i := 16) rfl)) rfl
theorem q4_89 : Cond.code yX5_readSign cX5_readSign 4 (some .int) ∈ lw_all := lw_in (tc_4 (List.mem_of_getElem? (i := 89) rfl)) rfl
theorem q2_93 : Cond.fieldLinkNest RX5 158 "TurningHall$Plan" "cams" "I" "TurningHall" ∈ lw_tbl := tc_2 (List.mem_of_getElem? (i := 93) rfl)
theorem q2_83 : Cond.fieldLinkNest RX5 161 "TurningHall$Plan" "things" "I" "TurningHall" ∈ lw_tbl := tc_2 (List.mem_of_getElem? (i := 83) rfl)
theorem q4_62 : Cond.methodLink RX5 164 yX5_tell ∈ lw_all := lw_in (tc_4 (List.mem_of_getElem? (i := 62) rfl)) rfl
theorem q4_64 : Cond.instanceMethod yX5_tell ∈ lw_all := lw_in (tc_4 (List.mem_of_getElem? (i := 64) rfl)) rfl
theorem q0_12 : Cond.selects RX5 yX5_tell yX5_tell ∈ lw_all := lw_in (tc_0 (List.mem_of_getElem? (i := 12) rfl)) rfl
theorem q4_65 : Cond.code yX5_tell cX5_tell 5 (some .int) ∈ lw_all := lw_in (tc_4 (List.mem_of_getElem? (i := 65) rfl)) rfl
theorem q4_78 : Cond.methodLink RX5 168 yX5_expect ∈ lw_all := lw_in (tc_4 (List.mem_of_getElem? (i := 78) rfl)) rfl
theorem q4_80 : Cond.instanceMethod yX5_expect ∈ lw_all := lw_in (tc_4 (List.mem_of_getElem? (i := 80) rfl)) rfl
theorem q0_14 : Cond.selects RX5 yX5_expect yX5_expect ∈ lw_all := lw_in (tc_0 (List.mem_of_getElem? (i := 14) rfl)) rfl
theorem q4_81 : Cond.code yX5_expect cX5_expect 2 (some .boolean) ∈ lw_all := lw_in (tc_4 (List.mem_of_getElem? (i := 81) rfl)) rfl
theorem q4_82 : Cond.methodLink RX5 132 yX5_readFormula ∈ lw_all := lw_in (tc_4 (List.mem_of_getElem? (i := 82) rfl)) rfl
theorem q4_84 : Cond.instanceMethod yX5_readFormula ∈ lw_all := lw_in (tc_4 (List.mem_of_getElem? (i := 84) rfl)) rfl
theorem q0_15 : Cond.selects RX5 yX5_readFormula yX5_readFormula ∈ lw_all := lw_in (tc_0 (List.mem_of_getElem? (i := 15) rfl)) rfl
theorem q4_85 : Cond.code yX5_readFormula cX5_readFormula 8 (some .boolean) ∈ lw_all := lw_in (tc_4 (List.mem_of_getElem? (i := 85) rfl)) rfl
theorem q2_110 : Cond.fieldLinkNest RX5 175 "TurningHall$Plan" "order" "[I" "TurningHall" ∈ lw_tbl := tc_2 (List.mem_of_getElem? (i := 110) rfl)
theorem q2_88 : Cond.fieldLinkNest RX5 178 "TurningHall$Plan" "bells" "I" "TurningHall" ∈ lw_tbl := tc_2 (List.mem_of_getElem? (i := 88) rfl)
theorem q2_98 : Cond.fieldLinkNest RX5 181 "TurningHall$Plan" "sorts" "[I" "TurningHall" ∈ lw_tbl := tc_2 (List.mem_of_getElem? (i := 98) rfl)
theorem q2_101 : Cond.fieldLinkNest RX5 184 "TurningHall$Plan" "parts" "[Z" "TurningHall" ∈ lw_tbl := tc_2 (List.mem_of_getElem? (i := 101) rfl)
theorem q2_104 : Cond.fieldLinkNest RX5 188 "TurningHall$Plan" "first" "[I" "TurningHall" ∈ lw_tbl := tc_2 (List.mem_of_getElem? (i := 104) rfl)
theorem q2_107 : Cond.fieldLinkNest RX5 191 "TurningHall$Plan" "turning" "[I" "TurningHall" ∈ lw_tbl := tc_2 (List.mem_of_getElem? (i := 107) rfl)
theorem q2_113 : Cond.fieldLinkNest RX5 205 "TurningHall$Plan" "teeth" "[D" "TurningHall" ∈ lw_tbl := tc_2 (List.mem_of_getElem? (i := 113) rfl)
theorem q2_116 : Cond.fieldLinkNest RX5 209 "TurningHall$Plan" "teethCount" "[I" "TurningHall" ∈ lw_tbl := tc_2 (List.mem_of_getElem? (i := 116) rfl)
theorem q3_54 : Cond.fieldLink RX5 12 "TurningHall$Reader" "sorter" "LTurningHall$Sorter;" ∈ lw_all := lw_in (tc_3 (List.mem_of_getElem? (i := 54) rfl)) rfl
theorem q4_218 : Cond.methodLink RX5 140 yX8_firstFault ∈ lw_all := lw_in (tc_4 (List.mem_of_getElem? (i := 218) rfl)) rfl
theorem q4_219 : Cond.instanceMethod yX8_firstFault ∈ lw_all := lw_in (tc_4 (List.mem_of_getElem? (i := 219) rfl)) rfl
theorem q4_220 : Cond.selects RX8 yX8_firstFault yX8_firstFault ∈ lw_all := lw_in (tc_4 (List.mem_of_getElem? (i := 220) rfl)) rfl
theorem q4_221 : Cond.code yX8_firstFault cX8_firstFault 6 (some .int) ∈ lw_all := lw_in (tc_4 (List.mem_of_getElem? (i := 221) rfl)) rfl
theorem q4_172 : Cond.methodLink RX5 117 yX5_refuse ∈ lw_all := lw_in (tc_4 (List.mem_of_getElem? (i := 172) rfl)) rfl
theorem q4_174 : Cond.instanceMethod yX5_refuse ∈ lw_all := lw_in (tc_4 (List.mem_of_getElem? (i := 174) rfl)) rfl
theorem q0_35 : Cond.selects RX5 yX5_refuse yX5_refuse ∈ lw_all := lw_in (tc_0 (List.mem_of_getElem? (i := 35) rfl)) rfl
theorem q4_175 : Cond.code yX5_refuse cX5_refuse 3 (some .int) ∈ lw_all := lw_in (tc_4 (List.mem_of_getElem? (i := 175) rfl)) rfl
theorem q3_111 : Cond.methodLink RX5 90 yX4_clear ∈ lw_all := lw_in (tc_3 (List.mem_of_getElem? (i := 111) rfl)) rfl
theorem q3_112 : Cond.instanceMethod yX4_clear ∈ lw_all := lw_in (tc_3 (List.mem_of_getElem? (i := 112) rfl)) rfl
theorem q3_113 : Cond.selects RX4 yX4_clear yX4_clear ∈ lw_all := lw_in (tc_3 (List.mem_of_getElem? (i := 113) rfl)) rfl
theorem q3_114 : Cond.code yX4_clear cX4_clear 1 none ∈ lw_all := lw_in (tc_3 (List.mem_of_getElem? (i := 114) rfl)) rfl
theorem q2_68 : Cond.fieldLinkNest RX5 65 "TurningHall$Plan" "code" "LTurningHall$Code;" "TurningHall" ∈ lw_tbl := tc_2 (List.mem_of_getElem? (i := 68) rfl)
theorem q3_119 : Cond.methodLink RX5 93 yX5_begin ∈ lw_all := lw_in (tc_3 (List.mem_of_getElem? (i := 119) rfl)) rfl
theorem q3_121 : Cond.instanceMethod yX5_begin ∈ lw_all := lw_in (tc_3 (List.mem_of_getElem? (i := 121) rfl)) rfl
theorem q0_2 : Cond.selects RX5 yX5_begin yX5_begin ∈ lw_all := lw_in (tc_0 (List.mem_of_getElem? (i := 2) rfl)) rfl
theorem q3_122 : Cond.code yX5_begin cX5_begin 3 none ∈ lw_all := lw_in (tc_3 (List.mem_of_getElem? (i := 122) rfl)) rfl
theorem q3_123 : Cond.methodLink RX5 97 yX7_begin ∈ lw_all := lw_in (tc_3 (List.mem_of_getElem? (i := 123) rfl)) rfl
theorem q3_124 : Cond.instanceMethod yX7_begin ∈ lw_all := lw_in (tc_3 (List.mem_of_getElem? (i := 124) rfl)) rfl
theorem q3_125 : Cond.selects RX7 yX7_begin yX7_begin ∈ lw_all := lw_in (tc_3 (List.mem_of_getElem? (i := 125) rfl)) rfl
theorem q3_126 : Cond.code yX7_begin cX7_begin 2 none ∈ lw_all := lw_in (tc_3 (List.mem_of_getElem? (i := 126) rfl)) rfl
theorem q4_214 : Cond.methodLink RX5 125 yX5_settle ∈ lw_all := lw_in (tc_4 (List.mem_of_getElem? (i := 214) rfl)) rfl
theorem q4_216 : Cond.instanceMethod yX5_settle ∈ lw_all := lw_in (tc_4 (List.mem_of_getElem? (i := 216) rfl)) rfl
theorem q0_41 : Cond.selects RX5 yX5_settle yX5_settle ∈ lw_all := lw_in (tc_0 (List.mem_of_getElem? (i := 41) rfl)) rfl
theorem q4_217 : Cond.code yX5_settle cX5_settle 3 (some .int) ∈ lw_all := lw_in (tc_4 (List.mem_of_getElem? (i := 217) rfl)) rfl
theorem q3_53 : Cond.fieldLink RX5 86 "TurningHall$Reader" "namer" "LTurningHall$Namer;" ∈ lw_all := lw_in (tc_3 (List.mem_of_getElem? (i := 53) rfl)) rfl
theorem q4_176 : Cond.methodLink RX5 121 yX2_firstFault ∈ lw_all := lw_in (tc_4 (List.mem_of_getElem? (i := 176) rfl)) rfl
theorem q4_177 : Cond.instanceMethod yX2_firstFault ∈ lw_all := lw_in (tc_4 (List.mem_of_getElem? (i := 177) rfl)) rfl
theorem q4_178 : Cond.selects RX2 yX2_firstFault yX2_firstFault ∈ lw_all := lw_in (tc_4 (List.mem_of_getElem? (i := 178) rfl)) rfl
theorem q4_179 : Cond.code yX2_firstFault cX2_firstFault 2 (some .int) ∈ lw_all := lw_in (tc_4 (List.mem_of_getElem? (i := 179) rfl)) rfl
theorem q4_57 : Cond.methodLink RX5 103 yX5_readThing ∈ lw_all := lw_in (tc_4 (List.mem_of_getElem? (i := 57) rfl)) rfl
theorem q4_59 : Cond.instanceMethod yX5_readThing ∈ lw_all := lw_in (tc_4 (List.mem_of_getElem? (i := 59) rfl)) rfl
theorem q0_11 : Cond.selects RX5 yX5_readThing yX5_readThing ∈ lw_all := lw_in (tc_0 (List.mem_of_getElem? (i := 11) rfl)) rfl
theorem q4_60 : Cond.code yX5_readThing cX5_readThing 8 (some .boolean) ∈ lw_all := lw_in (tc_4 (List.mem_of_getElem? (i := 60) rfl)) rfl
theorem q4_164 : Cond.methodLink RX5 107 yX5_readCam ∈ lw_all := lw_in (tc_4 (List.mem_of_getElem? (i := 164) rfl)) rfl
theorem q4_166 : Cond.instanceMethod yX5_readCam ∈ lw_all := lw_in (tc_4 (List.mem_of_getElem? (i := 166) rfl)) rfl
theorem q0_33 : Cond.selects RX5 yX5_readCam yX5_readCam ∈ lw_all := lw_in (tc_0 (List.mem_of_getElem? (i := 33) rfl)) rfl
theorem q4_167 : Cond.code yX5_readCam cX5_readCam 7 (some .boolean) ∈ lw_all := lw_in (tc_4 (List.mem_of_getElem? (i := 167) rfl)) rfl
theorem q4_168 : Cond.methodLink RX5 111 yX5_readBell ∈ lw_all := lw_in (tc_4 (List.mem_of_getElem? (i := 168) rfl)) rfl
theorem q4_170 : Cond.instanceMethod yX5_readBell ∈ lw_all := lw_in (tc_4 (List.mem_of_getElem? (i := 170) rfl)) rfl
theorem q0_34 : Cond.selects RX5 yX5_readBell yX5_readBell ∈ lw_all := lw_in (tc_0 (List.mem_of_getElem? (i := 34) rfl)) rfl
theorem q4_171 : Cond.code yX5_readBell cX5_readBell 5 (some .boolean) ∈ lw_all := lw_in (tc_4 (List.mem_of_getElem? (i := 171) rfl)) rfl
theorem q6_28 : Cond.methodLink RX5 129 yX0_clear ∈ lw_all := lw_in (tc_6 (List.mem_of_getElem? (i := 28) rfl)) rfl
theorem q6_29 : Cond.methodLink RX5 136 yX2_firstFaultAsked ∈ lw_all := lw_in (tc_6 (List.mem_of_getElem? (i := 29) rfl)) rfl
theorem q6_30 : Cond.instanceMethod yX2_firstFaultAsked ∈ lw_all := lw_in (tc_6 (List.mem_of_getElem? (i := 30) rfl)) rfl
theorem q6_31 : Cond.selects RX2 yX2_firstFaultAsked yX2_firstFaultAsked ∈ lw_all := lw_in (tc_6 (List.mem_of_getElem? (i := 31) rfl)) rfl
theorem q6_32 : Cond.code yX2_firstFaultAsked cX2_firstFaultAsked 3 (some .int) ∈ lw_all := lw_in (tc_6 (List.mem_of_getElem? (i := 32) rfl)) rfl
/-! ### X5_readFormula -/
theorem dX5_readFormula_0 : decode cX5_readFormula 0 = .ok (.aload_n 0, 1) := by decide +kernel
theorem dX5_readFormula_1 : decode cX5_readFormula 1 = .ok (.getfield 71, 3) := by decide +kernel
theorem dX5_readFormula_4 : decode cX5_readFormula 4 = .ok (.getfield 212, 3) := by decide +kernel
theorem dX5_readFormula_7 : decode cX5_readFormula 7 = .ok (.istore 5, 2) := by decide +kernel
theorem dX5_readFormula_9 : decode cX5_readFormula 9 = .ok (.aload_n 0, 1) := by decide +kernel
theorem dX5_readFormula_10 : decode cX5_readFormula 10 = .ok (.iconst 0, 1) := by decide +kernel
theorem dX5_readFormula_11 : decode cX5_readFormula 11 = .ok (.putfield 31, 3) := by decide +kernel
theorem dX5_readFormula_14 : decode cX5_readFormula 14 = .ok (.aload_n 0, 1) := by decide +kernel
theorem dX5_readFormula_15 : decode cX5_readFormula 15 = .ok (.iconst 0, 1) := by decide +kernel
theorem dX5_readFormula_16 : decode cX5_readFormula 16 = .ok (.putfield 35, 3) := by decide +kernel
theorem dX5_readFormula_19 : decode cX5_readFormula 19 = .ok (.iconst 2, 1) := by decide +kernel
theorem dX5_readFormula_20 : decode cX5_readFormula 20 = .ok (.istore 6, 2) := by decide +kernel
theorem dX5_readFormula_22 : decode cX5_readFormula 22 = .ok (.iconst 0, 1) := by decide +kernel
theorem dX5_readFormula_23 : decode cX5_readFormula 23 = .ok (.istore 7, 2) := by decide +kernel
theorem dX5_readFormula_25 : decode cX5_readFormula 25 = .ok (.iload 7, 2) := by decide +kernel
theorem dX5_readFormula_27 : decode cX5_readFormula 27 = .ok (.sipush 9000, 3) := by decide +kernel
theorem dX5_readFormula_30 : decode cX5_readFormula 30 = .ok (.if_icmp .gt 76, 3) := by decide +kernel
theorem dX5_readFormula_33 : decode cX5_readFormula 33 = .ok (.iload 6, 2) := by decide +kernel
theorem dX5_readFormula_35 : decode cX5_readFormula 35 = .ok (.iconst 1, 1) := by decide +kernel
theorem dX5_readFormula_36 : decode cX5_readFormula 36 = .ok (.if_icmp .le 70, 3) := by decide +kernel
theorem dX5_readFormula_39 : decode cX5_readFormula 39 = .ok (.aload_n 0, 1) := by decide +kernel
theorem dX5_readFormula_40 : decode cX5_readFormula 40 = .ok (.iconst 1, 1) := by decide +kernel
theorem dX5_readFormula_41 : decode cX5_readFormula 41 = .ok (.putfield 38, 3) := by decide +kernel
theorem dX5_readFormula_44 : decode cX5_readFormula 44 = .ok (.iload 6, 2) := by decide +kernel
theorem dX5_readFormula_46 : decode cX5_readFormula 46 = .ok (.iconst 3, 1) := by decide +kernel
theorem dX5_readFormula_47 : decode cX5_readFormula 47 = .ok (.if_icmp .ne 12, 3) := by decide +kernel
theorem dX5_readFormula_50 : decode cX5_readFormula 50 = .ok (.aload_n 0, 1) := by decide +kernel
theorem dX5_readFormula_51 : decode cX5_readFormula 51 = .ok (.invokevirtual 213, 3) := by decide +kernel
theorem dX5_readFormula_54 : decode cX5_readFormula 54 = .ok (.istore 6, 2) := by decide +kernel
theorem dX5_readFormula_56 : decode cX5_readFormula 56 = .ok (.goto 24, 3) := by decide +kernel
theorem dX5_readFormula_59 : decode cX5_readFormula 59 = .ok (.iload 6, 2) := by decide +kernel
theorem dX5_readFormula_61 : decode cX5_readFormula 61 = .ok (.iconst 2, 1) := by decide +kernel
theorem dX5_readFormula_62 : decode cX5_readFormula 62 = .ok (.if_icmp .ne 10, 3) := by decide +kernel
theorem dX5_readFormula_65 : decode cX5_readFormula 65 = .ok (.aload_n 0, 1) := by decide +kernel
theorem dX5_readFormula_66 : decode cX5_readFormula 66 = .ok (.invokevirtual 217, 3) := by decide +kernel
theorem dX5_readFormula_69 : decode cX5_readFormula 69 = .ok (.goto 9, 3) := by decide +kernel
theorem dX5_readFormula_72 : decode cX5_readFormula 72 = .ok (.aload_n 0, 1) := by decide +kernel
theorem dX5_readFormula_73 : decode cX5_readFormula 73 = .ok (.iload 6, 2) := by decide +kernel
theorem dX5_readFormula_75 : decode cX5_readFormula 75 = .ok (.invokevirtual 220, 3) := by decide +kernel
theorem dX5_readFormula_78 : decode cX5_readFormula 78 = .ok (.istore 6, 2) := by decide +kernel
theorem dX5_readFormula_80 : decode cX5_readFormula 80 = .ok (.aload_n 0, 1) := by decide +kernel
theorem dX5_readFormula_81 : decode cX5_readFormula 81 = .ok (.getfield 38, 3) := by decide +kernel
theorem dX5_readFormula_84 : decode cX5_readFormula 84 = .ok (.ifCond .eq 16, 3) := by decide +kernel
theorem dX5_readFormula_87 : decode cX5_readFormula 87 = .ok (.iload 6, 2) := by decide +kernel
theorem dX5_readFormula_89 : decode cX5_readFormula 89 = .ok (.iconst 1, 1) := by decide +kernel
theorem dX5_readFormula_90 : decode cX5_readFormula 90 = .ok (.if_icmp .le 10, 3) := by decide +kernel
theorem dX5_readFormula_93 : decode cX5_readFormula 93 = .ok (.aload_n 0, 1) := by decide +kernel
theorem dX5_readFormula_94 : decode cX5_readFormula 94 = .ok (.getfield 77, 3) := by decide +kernel
theorem dX5_readFormula_97 : decode cX5_readFormula 97 = .ok (.invokevirtual 145, 3) := by decide +kernel
theorem dX5_readFormula_100 : decode cX5_readFormula 100 = .ok (.iinc 7 1, 3) := by decide +kernel
theorem dX5_readFormula_103 : decode cX5_readFormula 103 = .ok (.goto (-78), 3) := by decide +kernel
theorem dX5_readFormula_106 : decode cX5_readFormula 106 = .ok (.aload_n 0, 1) := by decide +kernel
theorem dX5_readFormula_107 : decode cX5_readFormula 107 = .ok (.getfield 71, 3) := by decide +kernel
theorem dX5_readFormula_110 : decode cX5_readFormula 110 = .ok (.getfield 172, 3) := by decide +kernel
theorem dX5_readFormula_113 : decode cX5_readFormula 113 = .ok (.istore 7, 2) := by decide +kernel
theorem dX5_readFormula_115 : decode cX5_readFormula 115 = .ok (.aload_n 0, 1) := by decide +kernel
theorem dX5_readFormula_116 : decode cX5_readFormula 116 = .ok (.getfield 71, 3) := by decide +kernel
theorem dX5_readFormula_119 : decode cX5_readFormula 119 = .ok (.getfield 142, 3) := by decide +kernel
theorem dX5_readFormula_122 : decode cX5_readFormula 122 = .ok (.ifCond .ne 97, 3) := by decide +kernel
theorem dX5_readFormula_125 : decode cX5_readFormula 125 = .ok (.iload 7, 2) := by decide +kernel
theorem dX5_readFormula_127 : decode cX5_readFormula 127 = .ok (.bipush 92, 2) := by decide +kernel
theorem dX5_readFormula_129 : decode cX5_readFormula 129 = .ok (.if_icmp .ge 90, 3) := by decide +kernel
theorem dX5_readFormula_132 : decode cX5_readFormula 132 = .ok (.aload_n 0, 1) := by decide +kernel
theorem dX5_readFormula_133 : decode cX5_readFormula 133 = .ok (.getfield 71, 3) := by decide +kernel
theorem dX5_readFormula_136 : decode cX5_readFormula 136 = .ok (.getfield 223, 3) := by decide +kernel
theorem dX5_readFormula_139 : decode cX5_readFormula 139 = .ok (.iload 7, 2) := by decide +kernel
theorem dX5_readFormula_141 : decode cX5_readFormula 141 = .ok (.iload 5, 2) := by decide +kernel
theorem dX5_readFormula_143 : decode cX5_readFormula 143 = .ok (.iastore, 1) := by decide +kernel
theorem dX5_readFormula_144 : decode cX5_readFormula 144 = .ok (.aload_n 0, 1) := by decide +kernel
theorem dX5_readFormula_145 : decode cX5_readFormula 145 = .ok (.getfield 71, 3) := by decide +kernel
theorem dX5_readFormula_148 : decode cX5_readFormula 148 = .ok (.getfield 226, 3) := by decide +kernel
theorem dX5_readFormula_151 : decode cX5_readFormula 151 = .ok (.iload 7, 2) := by decide +kernel
theorem dX5_readFormula_153 : decode cX5_readFormula 153 = .ok (.aload_n 0, 1) := by decide +kernel
theorem dX5_readFormula_154 : decode cX5_readFormula 154 = .ok (.getfield 71, 3) := by decide +kernel
theorem dX5_readFormula_157 : decode cX5_readFormula 157 = .ok (.getfield 212, 3) := by decide +kernel
theorem dX5_readFormula_160 : decode cX5_readFormula 160 = .ok (.iastore, 1) := by decide +kernel
theorem dX5_readFormula_161 : decode cX5_readFormula 161 = .ok (.aload_n 0, 1) := by decide +kernel
theorem dX5_readFormula_162 : decode cX5_readFormula 162 = .ok (.getfield 71, 3) := by decide +kernel
theorem dX5_readFormula_165 : decode cX5_readFormula 165 = .ok (.getfield 229, 3) := by decide +kernel
theorem dX5_readFormula_168 : decode cX5_readFormula 168 = .ok (.iload 7, 2) := by decide +kernel
theorem dX5_readFormula_170 : decode cX5_readFormula 170 = .ok (.iload_n 1, 1) := by decide +kernel
theorem dX5_readFormula_171 : decode cX5_readFormula 171 = .ok (.iastore, 1) := by decide +kernel
theorem dX5_readFormula_172 : decode cX5_readFormula 172 = .ok (.aload_n 0, 1) := by decide +kernel
theorem dX5_readFormula_173 : decode cX5_readFormula 173 = .ok (.getfield 71, 3) := by decide +kernel
theorem dX5_readFormula_176 : decode cX5_readFormula 176 = .ok (.getfield 232, 3) := by decide +kernel
theorem dX5_readFormula_179 : decode cX5_readFormula 179 = .ok (.iload 7, 2) := by decide +kernel
theorem dX5_readFormula_181 : decode cX5_readFormula 181 = .ok (.iload_n 2, 1) := by decide +kernel
theorem dX5_readFormula_182 : decode cX5_readFormula 182 = .ok (.iastore, 1) := by decide +kernel
theorem dX5_readFormula_183 : decode cX5_readFormula 183 = .ok (.aload_n 0, 1) := by decide +kernel
theorem dX5_readFormula_184 : decode cX5_readFormula 184 = .ok (.getfield 71, 3) := by decide +kernel
theorem dX5_readFormula_187 : decode cX5_readFormula 187 = .ok (.getfield 235, 3) := by decide +kernel
theorem dX5_readFormula_190 : decode cX5_readFormula 190 = .ok (.iload 7, 2) := by decide +kernel
theorem dX5_readFormula_192 : decode cX5_readFormula 192 = .ok (.iload_n 3, 1) := by decide +kernel
theorem dX5_readFormula_193 : decode cX5_readFormula 193 = .ok (.iastore, 1) := by decide +kernel
theorem dX5_readFormula_194 : decode cX5_readFormula 194 = .ok (.aload_n 0, 1) := by decide +kernel
theorem dX5_readFormula_195 : decode cX5_readFormula 195 = .ok (.getfield 71, 3) := by decide +kernel
theorem dX5_readFormula_198 : decode cX5_readFormula 198 = .ok (.getfield 238, 3) := by decide +kernel
theorem dX5_readFormula_201 : decode cX5_readFormula 201 = .ok (.iload 7, 2) := by decide +kernel
theorem dX5_readFormula_203 : decode cX5_readFormula 203 = .ok (.iload 4, 2) := by decide +kernel
theorem dX5_readFormula_205 : decode cX5_readFormula 205 = .ok (.iastore, 1) := by decide +kernel
theorem dX5_readFormula_206 : decode cX5_readFormula 206 = .ok (.aload_n 0, 1) := by decide +kernel
theorem dX5_readFormula_207 : decode cX5_readFormula 207 = .ok (.getfield 71, 3) := by decide +kernel
theorem dX5_readFormula_210 : decode cX5_readFormula 210 = .ok (.dup, 1) := by decide +kernel
theorem dX5_readFormula_211 : decode cX5_readFormula 211 = .ok (.getfield 172, 3) := by decide +kernel
theorem dX5_readFormula_214 : decode cX5_readFormula 214 = .ok (.iconst 1, 1) := by decide +kernel
theorem dX5_readFormula_215 : decode cX5_readFormula 215 = .ok (.iadd, 1) := by decide +kernel
theorem dX5_readFormula_216 : decode cX5_readFormula 216 = .ok (.putfield 172, 3) := by decide +kernel
theorem dX5_readFormula_219 : decode cX5_readFormula 219 = .ok (.iload 6, 2) := by decide +kernel
theorem dX5_readFormula_221 : decode cX5_readFormula 221 = .ok (.iconst 1, 1) := by decide +kernel
theorem dX5_readFormula_222 : decode cX5_readFormula 222 = .ok (.if_icmp .ne 7, 3) := by decide +kernel
theorem dX5_readFormula_225 : decode cX5_readFormula 225 = .ok (.iconst 1, 1) := by decide +kernel
theorem dX5_readFormula_226 : decode cX5_readFormula 226 = .ok (.goto 4, 3) := by decide +kernel
theorem dX5_readFormula_229 : decode cX5_readFormula 229 = .ok (.iconst 0, 1) := by decide +kernel
theorem dX5_readFormula_230 : decode cX5_readFormula 230 = .ok (.ireturn, 1) := by decide +kernel
abbrev R_X5_readFormula : Room := ({ frames := 7, cells := 0, slots := 0, locals := 175 } : Room)
def b_X5_readFormula_219 (n : Nat) (hT_15 : Nat) (rec : (Gs → Gs → Gs → Gs → Gs → Int32 → Int32 → Int32 → Int32 → Int32 → Int32 → Int32 → Option (Int32 × Gs × Gs × Gs))) (gT : Gs) (gT_0 : Gs) (gT_1 : Gs) (gT_1_1 : Gs) (gT_15 : Gs) (v6 : Int32) : Option (Int32 × Gs × Gs × Gs) :=
  if v6 = (1 : Int32) then (some ((1 : Int32), gT, gT_1, gT_15)) else (some ((0 : Int32), gT, gT_1, gT_15))
def b_X5_readFormula_106 (n : Nat) (hT_15 : Nat) (rec : (Gs → Gs → Gs → Gs → Gs → Int32 → Int32 → Int32 → Int32 → Int32 → Int32 → Int32 → Option (Int32 × Gs × Gs × Gs))) (gT : Gs) (gT_0 : Gs) (gT_1 : Gs) (gT_1_1 : Gs) (gT_15 : Gs) (v1 : Int32) (v2 : Int32) (v3 : Int32) (v4 : Int32) (v5 : Int32) (v6 : Int32) : Option (Int32 × Gs × Gs × Gs) :=
  grd (rEq (gR gT 15) hT_15) (grd (rEq (gR gT 15) hT_15) (if (gI gT_15 10) = 0 then (if (92 : Int32) ≤ (gI gT_15 18) then (b_X5_readFormula_219 n hT_15 rec gT gT_0 gT_1 gT_1_1 gT_15 v6) else (grd (rEq (gR gT 15) hT_15) (grd (inB (gI gT_15 18) 92) (grd (rEq (gR gT 15) hT_15) (grd (rEq (gR gT 15) hT_15) (grd (inB (gI gT_15 18) 92) (grd (rEq (gR gT 15) hT_15) (grd (inB (gI gT_15 18) 92) (grd (rEq (gR gT 15) hT_15) (grd (inB (gI gT_15 18) 92) (grd (rEq (gR gT 15) hT_15) (grd (inB (gI gT_15 18) 92) (grd (rEq (gR gT 15) hT_15) (grd (inB (gI gT_15 18) 92) (grd (rEq (gR gT 15) hT_15) (b_X5_readFormula_219 n hT_15 rec gT gT_0 gT_1 gT_1_1 (sI (sIA (sIA (sIA (sIA (sIA (sIA gT_15 11 (upd (gIA gT_15 11) (gI gT_15 18).toNatClampNeg v5)) 12 (upd (gIA gT_15 12) (gI gT_15 18).toNatClampNeg (gI gT_15 8))) 13 (upd (gIA gT_15 13) (gI gT_15 18).toNatClampNeg v1)) 14 (upd (gIA gT_15 14) (gI gT_15 18).toNatClampNeg v2)) 15 (upd (gIA gT_15 15) (gI gT_15 18).toNatClampNeg v3)) 16 (upd (gIA gT_15 16) (gI gT_15 18).toNatClampNeg v4)) 18 ((gI gT_15 18) + (1 : Int32))) v6)))))))))))))))) else (b_X5_readFormula_219 n hT_15 rec gT gT_0 gT_1 gT_1_1 gT_15 v6)))
def b_X5_readFormula_100 (n : Nat) (hT_15 : Nat) (rec : (Gs → Gs → Gs → Gs → Gs → Int32 → Int32 → Int32 → Int32 → Int32 → Int32 → Int32 → Option (Int32 × Gs × Gs × Gs))) (gT : Gs) (gT_0 : Gs) (gT_1 : Gs) (gT_1_1 : Gs) (gT_15 : Gs) (v1 : Int32) (v2 : Int32) (v3 : Int32) (v4 : Int32) (v5 : Int32) (v6 : Int32) (v7 : Int32) : Option (Int32 × Gs × Gs × Gs) :=
  rec gT gT_0 gT_1 gT_1_1 gT_15 v1 v2 v3 v4 v5 v6 (v7 + (1 : Int32))
def b_X5_readFormula_80 (n : Nat) (hT_15 : Nat) (rec : (Gs → Gs → Gs → Gs → Gs → Int32 → Int32 → Int32 → Int32 → Int32 → Int32 → Int32 → Option (Int32 × Gs × Gs × Gs))) (gT : Gs) (gT_0 : Gs) (gT_1 : Gs) (gT_1_1 : Gs) (gT_15 : Gs) (v1 : Int32) (v2 : Int32) (v3 : Int32) (v4 : Int32) (v5 : Int32) (v6 : Int32) (v7 : Int32) : Option (Int32 × Gs × Gs × Gs) :=
  if (gI gT 10) = 0 then (b_X5_readFormula_100 n hT_15 rec gT gT_0 gT_1 gT_1_1 gT_15 v1 v2 v3 v4 v5 v6 v7) else (if v6 ≤ (1 : Int32) then (b_X5_readFormula_100 n hT_15 rec gT gT_0 gT_1 gT_1_1 gT_15 v1 v2 v3 v4 v5 v6 v7) else (bnd (f_X7_advance n gT_1 gT_0 gT_1_1) (fun q_20 => b_X5_readFormula_100 n hT_15 rec gT gT_0 q_20 gT_1_1 gT_15 v1 v2 v3 v4 v5 v6 v7)))
def b_X5_readFormula_78 (n : Nat) (hT_15 : Nat) (rec : (Gs → Gs → Gs → Gs → Gs → Int32 → Int32 → Int32 → Int32 → Int32 → Int32 → Int32 → Option (Int32 × Gs × Gs × Gs))) (gT : Gs) (gT_0 : Gs) (gT_1 : Gs) (gT_1_1 : Gs) (gT_15 : Gs) (v1 : Int32) (v2 : Int32) (v3 : Int32) (v4 : Int32) (v5 : Int32) (v7 : Int32) (s0 : Int32) : Option (Int32 × Gs × Gs × Gs) :=
  b_X5_readFormula_80 n hT_15 rec gT gT_0 gT_1 gT_1_1 gT_15 v1 v2 v3 v4 v5 s0 v7
def h_X5_readFormula_25 (n : Nat) (hT_15 : Nat) (rec : (Gs → Gs → Gs → Gs → Gs → Int32 → Int32 → Int32 → Int32 → Int32 → Int32 → Int32 → Option (Int32 × Gs × Gs × Gs))) (gT : Gs) (gT_0 : Gs) (gT_1 : Gs) (gT_1_1 : Gs) (gT_15 : Gs) (v1 : Int32) (v2 : Int32) (v3 : Int32) (v4 : Int32) (v5 : Int32) (v6 : Int32) (v7 : Int32) : Option (Int32 × Gs × Gs × Gs) :=
  if (9000 : Int32) < v7 then (b_X5_readFormula_106 n hT_15 rec gT gT_0 gT_1 gT_1_1 gT_15 v1 v2 v3 v4 v5 v6) else (if v6 ≤ (1 : Int32) then (b_X5_readFormula_106 n hT_15 rec gT gT_0 gT_1 gT_1_1 gT_15 v1 v2 v3 v4 v5 v6) else (if v6 = (3 : Int32) then (bnd (f_X5_readSign n hT_15 (sI gT 10 (1 : Int32)) gT_1 gT_15) (fun q_24 => b_X5_readFormula_80 n hT_15 rec q_24.2.1 gT_0 gT_1 gT_1_1 q_24.2.2 v1 v2 v3 v4 v5 q_24.1 v7)) else (if v6 = (2 : Int32) then (bnd (f_X5_readPart hT_15 (sI gT 10 (1 : Int32)) gT_1 gT_15) (fun q_22 => b_X5_readFormula_78 n hT_15 rec q_22.2.1 gT_0 gT_1 gT_1_1 q_22.2.2 v1 v2 v3 v4 v5 v7 q_22.1)) else (bnd (f_X5_readBehind hT_15 (sI gT 10 (1 : Int32)) gT_1 gT_15 v6) (fun q_18 => b_X5_readFormula_78 n hT_15 rec q_18.2.1 gT_0 gT_1 gT_1_1 q_18.2.2 v1 v2 v3 v4 v5 v7 q_18.1)))))
def L_X5_readFormula (n : Nat) (hT_15 : Nat) : Nat → (Gs → Gs → Gs → Gs → Gs → Int32 → Int32 → Int32 → Int32 → Int32 → Int32 → Int32 → Option (Int32 × Gs × Gs × Gs))
  | 0 => ((fun _ _ _ _ _ _ _ _ _ _ _ _ => none))
  | k + 1 => (h_X5_readFormula_25 n hT_15 (L_X5_readFormula n hT_15 k))
def f_X5_readFormula (n : Nat) (hT_15 : Nat) (gT : Gs) (gT_0 : Gs) (gT_1 : Gs) (gT_1_1 : Gs) (gT_15 : Gs) (x0 : Int32) (x1 : Int32) (x2 : Int32) (x3 : Int32) : Option (Int32 × Gs × Gs × Gs) :=
  grd (rEq (gR gT 15) hT_15) ((L_X5_readFormula n hT_15 n) (sI (sI gT 8 (0 : Int32)) 9 (0 : Int32)) gT_0 gT_1 gT_1_1 gT_15 x0 x1 x2 x3 (gI gT_15 8) (2 : Int32) (0 : Int32))
def S_X5_readFormula_219 (l : Launch) (D : Dx) (hT : Nat) (aT : Nat → Nat) (yT : Nat → ClassId) (aT_0 : Nat → Nat) (yT_0 : Nat → ClassId) (aT_1 : Nat → Nat) (yT_1 : Nat → ClassId) (aT_1_1 : Nat → Nat) (yT_1_1 : Nat → ClassId) (hT_15 : Nat) (aT_15 : Nat → Nat) (yT_15 : Nat → ClassId) (fn : Gs → Gs → Gs → Gs → Gs → Int32 → Option (Int32 × Gs × Gs × Gs)) : Prop :=
  ∀ {p : Program} {e : Env} {s : State} {m : MethodId} {args : Array Value} {below : List Frame} {meth : Method} {c : Code} {H : Heap} {locs : List Loc} {A : Nat → Prop} {ls : Array Slot} {gT : Gs} {gT_0 : Gs} {gT_1 : Gs} {gT_1_1 : Gs} {gT_15 : Gs} {v6 : Int32} {q : Int32 × Gs × Gs × Gs}, Cx p s m args meth c cX5_readFormula (some .boolean) 8 RX5 lw_all → Hx D (tX5 yT ++ (tTP yT_0 ++ (tX7 yT_1 ++ (tX6 yT_1_1 ++ (tX0 yT_15))))) A s H locs (wX5 hT aT yT gT ++ (wTP (aT 0) aT_0 yT_0 gT_0 ++ (wX7 (aT 1) (va_up aT_1 0 (aT 0)) yT_1 gT_1 ++ (wX6 ((va_up aT_1 0 (aT 0)) 1) aT_1_1 yT_1_1 gT_1_1 ++ (wX0 hT_15 aT_15 yT_15 gT_15))))) → lv_has ls 8 [(6, .int v6)] → fn gT gT_0 gT_1 gT_1_1 gT_15 v6 = some q → W p l e R_X5_readFormula s m args below meth c H locs 0 0 (MQ below (QI D A (wX5 hT aT yT q.2.1 ++ (wTP (aT 0) aT_0 yT_0 gT_0 ++ (wX7 (aT 1) (va_up aT_1 0 (aT 0)) yT_1 q.2.2.1 ++ (wX6 ((va_up aT_1 0 (aT 0)) 1) aT_1_1 yT_1_1 gT_1_1 ++ (wX0 hT_15 aT_15 yT_15 q.2.2.2))))) q.1) args s 0 0 A) (F0 m 219 ls [])
def S_X5_readFormula_106 (l : Launch) (D : Dx) (hT : Nat) (aT : Nat → Nat) (yT : Nat → ClassId) (aT_0 : Nat → Nat) (yT_0 : Nat → ClassId) (aT_1 : Nat → Nat) (yT_1 : Nat → ClassId) (aT_1_1 : Nat → Nat) (yT_1_1 : Nat → ClassId) (hT_15 : Nat) (aT_15 : Nat → Nat) (yT_15 : Nat → ClassId) (fn : Gs → Gs → Gs → Gs → Gs → Int32 → Int32 → Int32 → Int32 → Int32 → Int32 → Option (Int32 × Gs × Gs × Gs)) : Prop :=
  ∀ {p : Program} {e : Env} {s : State} {m : MethodId} {args : Array Value} {below : List Frame} {meth : Method} {c : Code} {H : Heap} {locs : List Loc} {A : Nat → Prop} {ls : Array Slot} {gT : Gs} {gT_0 : Gs} {gT_1 : Gs} {gT_1_1 : Gs} {gT_15 : Gs} {v1 : Int32} {v2 : Int32} {v3 : Int32} {v4 : Int32} {v5 : Int32} {v6 : Int32} {q : Int32 × Gs × Gs × Gs}, Cx p s m args meth c cX5_readFormula (some .boolean) 8 RX5 lw_all → Hx D (tX5 yT ++ (tTP yT_0 ++ (tX7 yT_1 ++ (tX6 yT_1_1 ++ (tX0 yT_15))))) A s H locs (wX5 hT aT yT gT ++ (wTP (aT 0) aT_0 yT_0 gT_0 ++ (wX7 (aT 1) (va_up aT_1 0 (aT 0)) yT_1 gT_1 ++ (wX6 ((va_up aT_1 0 (aT 0)) 1) aT_1_1 yT_1_1 gT_1_1 ++ (wX0 hT_15 aT_15 yT_15 gT_15))))) → lv_has ls 8 [(0, .ref hT), (1, .int v1), (2, .int v2), (3, .int v3), (4, .int v4), (5, .int v5), (6, .int v6)] → fn gT gT_0 gT_1 gT_1_1 gT_15 v1 v2 v3 v4 v5 v6 = some q → W p l e R_X5_readFormula s m args below meth c H locs 0 0 (MQ below (QI D A (wX5 hT aT yT q.2.1 ++ (wTP (aT 0) aT_0 yT_0 gT_0 ++ (wX7 (aT 1) (va_up aT_1 0 (aT 0)) yT_1 q.2.2.1 ++ (wX6 ((va_up aT_1 0 (aT 0)) 1) aT_1_1 yT_1_1 gT_1_1 ++ (wX0 hT_15 aT_15 yT_15 q.2.2.2))))) q.1) args s 0 0 A) (F0 m 106 ls [])
def S_X5_readFormula_100 (l : Launch) (D : Dx) (hT : Nat) (aT : Nat → Nat) (yT : Nat → ClassId) (aT_0 : Nat → Nat) (yT_0 : Nat → ClassId) (aT_1 : Nat → Nat) (yT_1 : Nat → ClassId) (aT_1_1 : Nat → Nat) (yT_1_1 : Nat → ClassId) (hT_15 : Nat) (aT_15 : Nat → Nat) (yT_15 : Nat → ClassId) (fn : Gs → Gs → Gs → Gs → Gs → Int32 → Int32 → Int32 → Int32 → Int32 → Int32 → Int32 → Option (Int32 × Gs × Gs × Gs)) : Prop :=
  ∀ {p : Program} {e : Env} {s : State} {m : MethodId} {args : Array Value} {below : List Frame} {meth : Method} {c : Code} {H : Heap} {locs : List Loc} {A : Nat → Prop} {ls : Array Slot} {gT : Gs} {gT_0 : Gs} {gT_1 : Gs} {gT_1_1 : Gs} {gT_15 : Gs} {v1 : Int32} {v2 : Int32} {v3 : Int32} {v4 : Int32} {v5 : Int32} {v6 : Int32} {v7 : Int32} {q : Int32 × Gs × Gs × Gs}, Cx p s m args meth c cX5_readFormula (some .boolean) 8 RX5 lw_all → Hx D (tX5 yT ++ (tTP yT_0 ++ (tX7 yT_1 ++ (tX6 yT_1_1 ++ (tX0 yT_15))))) A s H locs (wX5 hT aT yT gT ++ (wTP (aT 0) aT_0 yT_0 gT_0 ++ (wX7 (aT 1) (va_up aT_1 0 (aT 0)) yT_1 gT_1 ++ (wX6 ((va_up aT_1 0 (aT 0)) 1) aT_1_1 yT_1_1 gT_1_1 ++ (wX0 hT_15 aT_15 yT_15 gT_15))))) → lv_has ls 8 [(0, .ref hT), (1, .int v1), (2, .int v2), (3, .int v3), (4, .int v4), (5, .int v5), (6, .int v6), (7, .int v7)] → fn gT gT_0 gT_1 gT_1_1 gT_15 v1 v2 v3 v4 v5 v6 v7 = some q → W p l e R_X5_readFormula s m args below meth c H locs 0 0 (MQ below (QI D A (wX5 hT aT yT q.2.1 ++ (wTP (aT 0) aT_0 yT_0 gT_0 ++ (wX7 (aT 1) (va_up aT_1 0 (aT 0)) yT_1 q.2.2.1 ++ (wX6 ((va_up aT_1 0 (aT 0)) 1) aT_1_1 yT_1_1 gT_1_1 ++ (wX0 hT_15 aT_15 yT_15 q.2.2.2))))) q.1) args s 0 0 A) (F0 m 100 ls [])
def S_X5_readFormula_80 (l : Launch) (D : Dx) (hT : Nat) (aT : Nat → Nat) (yT : Nat → ClassId) (aT_0 : Nat → Nat) (yT_0 : Nat → ClassId) (aT_1 : Nat → Nat) (yT_1 : Nat → ClassId) (aT_1_1 : Nat → Nat) (yT_1_1 : Nat → ClassId) (hT_15 : Nat) (aT_15 : Nat → Nat) (yT_15 : Nat → ClassId) (fn : Gs → Gs → Gs → Gs → Gs → Int32 → Int32 → Int32 → Int32 → Int32 → Int32 → Int32 → Option (Int32 × Gs × Gs × Gs)) : Prop :=
  ∀ {p : Program} {e : Env} {s : State} {m : MethodId} {args : Array Value} {below : List Frame} {meth : Method} {c : Code} {H : Heap} {locs : List Loc} {A : Nat → Prop} {ls : Array Slot} {gT : Gs} {gT_0 : Gs} {gT_1 : Gs} {gT_1_1 : Gs} {gT_15 : Gs} {v1 : Int32} {v2 : Int32} {v3 : Int32} {v4 : Int32} {v5 : Int32} {v6 : Int32} {v7 : Int32} {q : Int32 × Gs × Gs × Gs}, Cx p s m args meth c cX5_readFormula (some .boolean) 8 RX5 lw_all → Hx D (tX5 yT ++ (tTP yT_0 ++ (tX7 yT_1 ++ (tX6 yT_1_1 ++ (tX0 yT_15))))) A s H locs (wX5 hT aT yT gT ++ (wTP (aT 0) aT_0 yT_0 gT_0 ++ (wX7 (aT 1) (va_up aT_1 0 (aT 0)) yT_1 gT_1 ++ (wX6 ((va_up aT_1 0 (aT 0)) 1) aT_1_1 yT_1_1 gT_1_1 ++ (wX0 hT_15 aT_15 yT_15 gT_15))))) → lv_has ls 8 [(0, .ref hT), (1, .int v1), (2, .int v2), (3, .int v3), (4, .int v4), (5, .int v5), (6, .int v6), (7, .int v7)] → fn gT gT_0 gT_1 gT_1_1 gT_15 v1 v2 v3 v4 v5 v6 v7 = some q → W p l e R_X5_readFormula s m args below meth c H locs 0 0 (MQ below (QI D A (wX5 hT aT yT q.2.1 ++ (wTP (aT 0) aT_0 yT_0 gT_0 ++ (wX7 (aT 1) (va_up aT_1 0 (aT 0)) yT_1 q.2.2.1 ++ (wX6 ((va_up aT_1 0 (aT 0)) 1) aT_1_1 yT_1_1 gT_1_1 ++ (wX0 hT_15 aT_15 yT_15 q.2.2.2))))) q.1) args s 0 0 A) (F0 m 80 ls [])
def S_X5_readFormula_78 (l : Launch) (D : Dx) (hT : Nat) (aT : Nat → Nat) (yT : Nat → ClassId) (aT_0 : Nat → Nat) (yT_0 : Nat → ClassId) (aT_1 : Nat → Nat) (yT_1 : Nat → ClassId) (aT_1_1 : Nat → Nat) (yT_1_1 : Nat → ClassId) (hT_15 : Nat) (aT_15 : Nat → Nat) (yT_15 : Nat → ClassId) (fn : Gs → Gs → Gs → Gs → Gs → Int32 → Int32 → Int32 → Int32 → Int32 → Int32 → Int32 → Option (Int32 × Gs × Gs × Gs)) : Prop :=
  ∀ {p : Program} {e : Env} {s : State} {m : MethodId} {args : Array Value} {below : List Frame} {meth : Method} {c : Code} {H : Heap} {locs : List Loc} {A : Nat → Prop} {ls : Array Slot} {gT : Gs} {gT_0 : Gs} {gT_1 : Gs} {gT_1_1 : Gs} {gT_15 : Gs} {v1 : Int32} {v2 : Int32} {v3 : Int32} {v4 : Int32} {v5 : Int32} {v7 : Int32} {s0 : Int32} {q : Int32 × Gs × Gs × Gs}, Cx p s m args meth c cX5_readFormula (some .boolean) 8 RX5 lw_all → Hx D (tX5 yT ++ (tTP yT_0 ++ (tX7 yT_1 ++ (tX6 yT_1_1 ++ (tX0 yT_15))))) A s H locs (wX5 hT aT yT gT ++ (wTP (aT 0) aT_0 yT_0 gT_0 ++ (wX7 (aT 1) (va_up aT_1 0 (aT 0)) yT_1 gT_1 ++ (wX6 ((va_up aT_1 0 (aT 0)) 1) aT_1_1 yT_1_1 gT_1_1 ++ (wX0 hT_15 aT_15 yT_15 gT_15))))) → lv_has ls 8 [(0, .ref hT), (1, .int v1), (2, .int v2), (3, .int v3), (4, .int v4), (5, .int v5), (7, .int v7)] → fn gT gT_0 gT_1 gT_1_1 gT_15 v1 v2 v3 v4 v5 v7 s0 = some q → W p l e R_X5_readFormula s m args below meth c H locs 0 0 (MQ below (QI D A (wX5 hT aT yT q.2.1 ++ (wTP (aT 0) aT_0 yT_0 gT_0 ++ (wX7 (aT 1) (va_up aT_1 0 (aT 0)) yT_1 q.2.2.1 ++ (wX6 ((va_up aT_1 0 (aT 0)) 1) aT_1_1 yT_1_1 gT_1_1 ++ (wX0 hT_15 aT_15 yT_15 q.2.2.2))))) q.1) args s 0 0 A) (F0 m 78 ls [.int s0])
def S_X5_readFormula_25 (l : Launch) (D : Dx) (hT : Nat) (aT : Nat → Nat) (yT : Nat → ClassId) (aT_0 : Nat → Nat) (yT_0 : Nat → ClassId) (aT_1 : Nat → Nat) (yT_1 : Nat → ClassId) (aT_1_1 : Nat → Nat) (yT_1_1 : Nat → ClassId) (hT_15 : Nat) (aT_15 : Nat → Nat) (yT_15 : Nat → ClassId) (fn : Gs → Gs → Gs → Gs → Gs → Int32 → Int32 → Int32 → Int32 → Int32 → Int32 → Int32 → Option (Int32 × Gs × Gs × Gs)) : Prop :=
  ∀ {p : Program} {e : Env} {s : State} {m : MethodId} {args : Array Value} {below : List Frame} {meth : Method} {c : Code} {H : Heap} {locs : List Loc} {A : Nat → Prop} {ls : Array Slot} {gT : Gs} {gT_0 : Gs} {gT_1 : Gs} {gT_1_1 : Gs} {gT_15 : Gs} {v1 : Int32} {v2 : Int32} {v3 : Int32} {v4 : Int32} {v5 : Int32} {v6 : Int32} {v7 : Int32} {q : Int32 × Gs × Gs × Gs}, Cx p s m args meth c cX5_readFormula (some .boolean) 8 RX5 lw_all → Hx D (tX5 yT ++ (tTP yT_0 ++ (tX7 yT_1 ++ (tX6 yT_1_1 ++ (tX0 yT_15))))) A s H locs (wX5 hT aT yT gT ++ (wTP (aT 0) aT_0 yT_0 gT_0 ++ (wX7 (aT 1) (va_up aT_1 0 (aT 0)) yT_1 gT_1 ++ (wX6 ((va_up aT_1 0 (aT 0)) 1) aT_1_1 yT_1_1 gT_1_1 ++ (wX0 hT_15 aT_15 yT_15 gT_15))))) → lv_has ls 8 [(0, .ref hT), (1, .int v1), (2, .int v2), (3, .int v3), (4, .int v4), (5, .int v5), (6, .int v6), (7, .int v7)] → fn gT gT_0 gT_1 gT_1_1 gT_15 v1 v2 v3 v4 v5 v6 v7 = some q → W p l e R_X5_readFormula s m args below meth c H locs 0 0 (MQ below (QI D A (wX5 hT aT yT q.2.1 ++ (wTP (aT 0) aT_0 yT_0 gT_0 ++ (wX7 (aT 1) (va_up aT_1 0 (aT 0)) yT_1 q.2.2.1 ++ (wX6 ((va_up aT_1 0 (aT 0)) 1) aT_1_1 yT_1_1 gT_1_1 ++ (wX0 hT_15 aT_15 yT_15 q.2.2.2))))) q.1) args s 0 0 A) (F0 m 25 ls [])
def SH_X5_readFormula (l : Launch) (D : Dx) (hT : Nat) (aT : Nat → Nat) (yT : Nat → ClassId) (aT_0 : Nat → Nat) (yT_0 : Nat → ClassId) (aT_1 : Nat → Nat) (yT_1 : Nat → ClassId) (aT_1_1 : Nat → Nat) (yT_1_1 : Nat → ClassId) (hT_15 : Nat) (aT_15 : Nat → Nat) (yT_15 : Nat → ClassId) (rec : (Gs → Gs → Gs → Gs → Gs → Int32 → Int32 → Int32 → Int32 → Int32 → Int32 → Int32 → Option (Int32 × Gs × Gs × Gs))) : Prop := S_X5_readFormula_25 l D hT aT yT aT_0 yT_0 aT_1 yT_1 aT_1_1 yT_1_1 hT_15 aT_15 yT_15 rec
set_option maxHeartbeats 4000000 in
set_option maxRecDepth 100000 in
theorem k_X5_readFormula_219 (l : Launch) (D : Dx) (hT : Nat) (aT : Nat → Nat) (yT : Nat → ClassId) (aT_0 : Nat → Nat) (yT_0 : Nat → ClassId) (aT_1 : Nat → Nat) (yT_1 : Nat → ClassId) (aT_1_1 : Nat → Nat) (yT_1_1 : Nat → ClassId) (hT_15 : Nat) (aT_15 : Nat → Nat) (yT_15 : Nat → ClassId) (n : Nat) (rec : (Gs → Gs → Gs → Gs → Gs → Int32 → Int32 → Int32 → Int32 → Int32 → Int32 → Int32 → Option (Int32 × Gs × Gs × Gs))) (IH : SH_X5_readFormula l D hT aT yT aT_0 yT_0 aT_1 yT_1 aT_1_1 yT_1_1 hT_15 aT_15 yT_15 rec) : S_X5_readFormula_219 l D hT aT yT aT_0 yT_0 aT_1 yT_1 aT_1_1 yT_1_1 hT_15 aT_15 yT_15 (b_X5_readFormula_219 n hT_15 rec) := by
  intro p e s m args below meth c H locs A ls gT gT_0 gT_1 gT_1_1 gT_15 v6 q C X hl hF
  obtain ⟨hx, hb, hr, hml, hown, hts, hlk⟩ := id C
  unfold b_X5_readFormula_219 at hF
  refine lv_iload hx hb dX5_readFormula_219 (lv_at hl 0 rfl) ?_
  refine lv_iconst (v := (1 : Int32)) hx hb dX5_readFormula_221 (by decide) ?_
  refine lv_icmp_ne (tgt := 229) hx hb dX5_readFormula_222 (by decide) (fun c => ?_) (fun c => ?_)
  · replace hF := iF c hF
    refine lv_iconst (v := (0 : Int32)) hx hb dX5_readFormula_229 (by decide) ?_
    have hq := Option.some.inj hF
    subst hq
    exact rt_z (v := (0 : Int32)) C X (by decide) dX5_readFormula_230
  · replace hF := iT c hF
    refine lv_iconst (v := (1 : Int32)) hx hb dX5_readFormula_225 (by decide) ?_
    refine lv_goto (tgt := 230) hx hb dX5_readFormula_226 (by decide) ?_
    have hq := Option.some.inj hF
    subst hq
    exact rt_z (v := (1 : Int32)) C X (by decide) dX5_readFormula_230
set_option maxHeartbeats 4000000 in
set_option maxRecDepth 100000 in
theorem k_X5_readFormula_106 (l : Launch) (D : Dx) (hT : Nat) (aT : Nat → Nat) (yT : Nat → ClassId) (aT_0 : Nat → Nat) (yT_0 : Nat → ClassId) (aT_1 : Nat → Nat) (yT_1 : Nat → ClassId) (aT_1_1 : Nat → Nat) (yT_1_1 : Nat → ClassId) (hT_15 : Nat) (aT_15 : Nat → Nat) (yT_15 : Nat → ClassId) (n : Nat) (rec : (Gs → Gs → Gs → Gs → Gs → Int32 → Int32 → Int32 → Int32 → Int32 → Int32 → Int32 → Option (Int32 × Gs × Gs × Gs))) (IH : SH_X5_readFormula l D hT aT yT aT_0 yT_0 aT_1 yT_1 aT_1_1 yT_1_1 hT_15 aT_15 yT_15 rec) : S_X5_readFormula_106 l D hT aT yT aT_0 yT_0 aT_1 yT_1 aT_1_1 yT_1_1 hT_15 aT_15 yT_15 (b_X5_readFormula_106 n hT_15 rec) := by
  intro p e s m args below meth c H locs A ls gT gT_0 gT_1 gT_1_1 gT_15 v1 v2 v3 v4 v5 v6 q C X hl hF
  obtain ⟨hx, hb, hr, hml, hown, hts, hlk⟩ := id C
  unfold b_X5_readFormula_106 at hF
  refine lv_aload_n hx hb dX5_readFormula_106 rfl (lv_at hl 0 rfl) ?_
  obtain ⟨h_2, hF⟩ := grd_some hF
  refine va_get (D := D.1) (ci := 5) (v := .ref hT_15) (C := RX5) (T := TX5) (N := 18) hx hb hts wi_X5 hown X.1 X.2.1 0 rfl rfl 15 (by decide) (hts _ q3_66) (fun _ h9 => h9) ((fl_get (by decide)).trans (rf_eq h_2)) dX5_readFormula_107 ?_
  refine va_getN (D := D.1) (ci := 0) (v := .int (gI gT_15 18)) (C := RX0) (T := TX0) (N := 19) hx hb hts wi_X0 hown X.1 X.2.1 9 rfl rfl 18 (by decide) (X.2.2.2.2.2.1.use q2_27 rfl) (fun _ h9 => h9) (fl_get (by decide)) dX5_readFormula_110 ?_
  refine lv_istore (lv' := [(7, .int (gI gT_15 18)), (0, .ref hT), (1, .int v1), (2, .int v2), (3, .int v3), (4, .int v4), (5, .int v5), (6, .int v6)]) hx hb dX5_readFormula_113 hl (by decide) rfl (fun ls hl => ?_)
  refine lv_aload_n hx hb dX5_readFormula_115 rfl (lv_at hl 1 rfl) ?_
  obtain ⟨h_3, hF⟩ := grd_some hF
  refine va_get (D := D.1) (ci := 5) (v := .ref hT_15) (C := RX5) (T := TX5) (N := 18) hx hb hts wi_X5 hown X.1 X.2.1 0 rfl rfl 15 (by decide) (hts _ q3_66) (fun _ h9 => h9) ((fl_get (by decide)).trans (rf_eq h_3)) dX5_readFormula_116 ?_
  refine va_getN (D := D.1) (ci := 0) (v := .int (gI gT_15 10)) (C := RX0) (T := TX0) (N := 19) hx hb hts wi_X0 hown X.1 X.2.1 9 rfl rfl 10 (by decide) (X.2.2.2.2.2.1.use q2_3 rfl) (fun _ h9 => h9) (fl_get (by decide)) dX5_readFormula_119 ?_
  refine lv_if_ne (tgt := 219) hx hb dX5_readFormula_122 (by decide) (fun c => ?_) (fun c => ?_)
  · replace hF := iF c hF
    exact (k_X5_readFormula_219 l D hT aT yT aT_0 yT_0 aT_1 yT_1 aT_1_1 yT_1_1 hT_15 aT_15 yT_15 n rec IH) C X (lv_sub hl [7] rfl) hF
  · replace hF := iT c hF
    refine lv_iload hx hb dX5_readFormula_125 (lv_at hl 0 rfl) ?_
    refine lv_bipush (v := (92 : Int32)) hx hb dX5_readFormula_127 (by decide) ?_
    refine lv_icmp_ge (tgt := 219) hx hb dX5_readFormula_129 (by decide) (fun c => ?_) (fun c => ?_)
    · replace hF := iT c hF
      exact (k_X5_readFormula_219 l D hT aT yT aT_0 yT_0 aT_1 yT_1 aT_1_1 yT_1_1 hT_15 aT_15 yT_15 n rec IH) C X (lv_sub hl [7] rfl) hF
    · replace hF := iF c hF
      refine lv_aload_n hx hb dX5_readFormula_132 rfl (lv_at hl 1 rfl) ?_
      obtain ⟨h_4, hF⟩ := grd_some hF
      refine va_get (D := D.1) (ci := 5) (v := .ref hT_15) (C := RX5) (T := TX5) (N := 18) hx hb hts wi_X5 hown X.1 X.2.1 0 rfl rfl 15 (by decide) (hts _ q3_66) (fun _ h9 => h9) ((fl_get (by decide)).trans (rf_eq h_4)) dX5_readFormula_133 ?_
      refine va_getN (D := D.1) (ci := 0) (v := .ref (aT_15 11)) (C := RX0) (T := TX0) (N := 19) hx hb hts wi_X0 hown X.1 X.2.1 9 rfl rfl 11 (by decide) (X.2.2.2.2.2.1.use q2_5 rfl) (fun _ h9 => h9) (fl_get (by decide)) dX5_readFormula_136 ?_
      refine lv_iload hx hb dX5_readFormula_139 (lv_at hl 0 rfl) ?_
      refine lv_iload hx hb dX5_readFormula_141 (lv_at hl 6 rfl) ?_
      obtain ⟨h_5, hF⟩ := grd_some hF
      refine va_iast (D := D.1) (f := gIA gT_15 11) hx hb X.1 X.2.1 X.2.2.1 X.2.2.2.1 18 14 rfl rfl (inB_ok h_5) dX5_readFormula_143 (fun H locs hP hD hS => ?_)
      have X : Hx D (tX5 yT ++ (tTP yT_0 ++ (tX7 yT_1 ++ (tX6 yT_1_1 ++ (tX0 yT_15))))) A s H locs (wX5 hT aT yT gT ++ (wTP (aT 0) aT_0 yT_0 gT_0 ++ (wX7 (aT 1) (va_up aT_1 0 (aT 0)) yT_1 gT_1 ++ (wX6 ((va_up aT_1 0 (aT 0)) 1) aT_1_1 yT_1_1 gT_1_1 ++ (wX0 hT_15 aT_15 yT_15 (sIA gT_15 11 (upd (gIA gT_15 11) (gI gT_15 18).toNatClampNeg v5))))))) := Hx_set X (set_r (n := 5) (i := 13) (j := 18) (wG_len rfl) rfl (set_r (n := 1) (i := 12) (j := 13) (rfl) rfl (set_r (n := 1) (i := 11) (j := 12) (wG_len rfl) rfl (set_r (n := 2) (i := 9) (j := 11) (wG_len rfl) rfl (wG_sIA (i := 8) (k := 11) ndX0 rfl rfl))))) hP hD hS
      refine lv_aload_n hx hb dX5_readFormula_144 rfl (lv_at hl 1 rfl) ?_
      obtain ⟨h_6, hF⟩ := grd_some hF
      refine va_get (D := D.1) (ci := 5) (v := .ref hT_15) (C := RX5) (T := TX5) (N := 18) hx hb hts wi_X5 hown X.1 X.2.1 0 rfl rfl 15 (by decide) (hts _ q3_66) (fun _ h9 => h9) ((fl_get (by decide)).trans (rf_eq h_6)) dX5_readFormula_145 ?_
      refine va_getN (D := D.1) (ci := 0) (v := .ref (aT_15 12)) (C := RX0) (T := TX0) (N := 19) hx hb hts wi_X0 hown X.1 X.2.1 9 rfl rfl 12 (by decide) (X.2.2.2.2.2.1.use q2_7 rfl) (fun _ h9 => h9) (fl_get (by decide)) dX5_readFormula_148 ?_
      refine lv_iload hx hb dX5_readFormula_151 (lv_at hl 0 rfl) ?_
      refine lv_aload_n hx hb dX5_readFormula_153 rfl (lv_at hl 1 rfl) ?_
      obtain ⟨h_7, hF⟩ := grd_some hF
      refine va_get (D := D.1) (ci := 5) (v := .ref hT_15) (C := RX5) (T := TX5) (N := 18) hx hb hts wi_X5 hown X.1 X.2.1 0 rfl rfl 15 (by decide) (hts _ q3_66) (fun _ h9 => h9) ((fl_get (by decide)).trans (rf_eq h_7)) dX5_readFormula_154 ?_
      refine va_getN (D := D.1) (ci := 0) (v := .int (gI gT_15 8)) (C := RX0) (T := TX0) (N := 19) hx hb hts wi_X0 hown X.1 X.2.1 9 rfl rfl 8 (by decide) (X.2.2.2.2.2.1.use q1_238 rfl) (fun _ h9 => h9) (fl_get (by decide)) dX5_readFormula_157 ?_
      obtain ⟨h_8, hF⟩ := grd_some hF
      refine va_iast (D := D.1) (f := gIA gT_15 12) hx hb X.1 X.2.1 X.2.2.1 X.2.2.2.1 19 15 rfl rfl (inB_ok h_8) dX5_readFormula_160 (fun H locs hP hD hS => ?_)
      have X : Hx D (tX5 yT ++ (tTP yT_0 ++ (tX7 yT_1 ++ (tX6 yT_1_1 ++ (tX0 yT_15))))) A s H locs (wX5 hT aT yT gT ++ (wTP (aT 0) aT_0 yT_0 gT_0 ++ (wX7 (aT 1) (va_up aT_1 0 (aT 0)) yT_1 gT_1 ++ (wX6 ((va_up aT_1 0 (aT 0)) 1) aT_1_1 yT_1_1 gT_1_1 ++ (wX0 hT_15 aT_15 yT_15 (sIA (sIA gT_15 11 (upd (gIA gT_15 11) (gI gT_15 18).toNatClampNeg v5)) 12 (upd (gIA gT_15 12) (gI gT_15 18).toNatClampNeg (gI gT_15 8)))))))) := Hx_set X (set_r (n := 5) (i := 14) (j := 19) (wG_len rfl) rfl (set_r (n := 1) (i := 13) (j := 14) (rfl) rfl (set_r (n := 1) (i := 12) (j := 13) (wG_len rfl) rfl (set_r (n := 2) (i := 10) (j := 12) (wG_len rfl) rfl (wG_sIA (i := 9) (k := 12) ndX0 rfl rfl))))) hP hD hS
      refine lv_aload_n hx hb dX5_readFormula_161 rfl (lv_at hl 1 rfl) ?_
      obtain ⟨h_9, hF⟩ := grd_some hF
      refine va_get (D := D.1) (ci := 5) (v := .ref hT_15) (C := RX5) (T := TX5) (N := 18) hx hb hts wi_X5 hown X.1 X.2.1 0 rfl rfl 15 (by decide) (hts _ q3_66) (fun _ h9 => h9) ((fl_get (by decide)).trans (rf_eq h_9)) dX5_readFormula_162 ?_
      refine va_getN (D := D.1) (ci := 0) (v := .ref (aT_15 13)) (C := RX0) (T := TX0) (N := 19) hx hb hts wi_X0 hown X.1 X.2.1 9 rfl rfl 13 (by decide) (X.2.2.2.2.2.1.use q2_10 rfl) (fun _ h9 => h9) (fl_get (by decide)) dX5_readFormula_165 ?_
      refine lv_iload hx hb dX5_readFormula_168 (lv_at hl 0 rfl) ?_
      refine lv_iload_n hx hb dX5_readFormula_170 rfl (lv_at hl 2 rfl) ?_
      obtain ⟨h_10, hF⟩ := grd_some hF
      refine va_iast (D := D.1) (f := gIA gT_15 13) hx hb X.1 X.2.1 X.2.2.1 X.2.2.2.1 20 16 rfl rfl (inB_ok h_10) dX5_readFormula_171 (fun H locs hP hD hS => ?_)
      have X : Hx D (tX5 yT ++ (tTP yT_0 ++ (tX7 yT_1 ++ (tX6 yT_1_1 ++ (tX0 yT_15))))) A s H locs (wX5 hT aT yT gT ++ (wTP (aT 0) aT_0 yT_0 gT_0 ++ (wX7 (aT 1) (va_up aT_1 0 (aT 0)) yT_1 gT_1 ++ (wX6 ((va_up aT_1 0 (aT 0)) 1) aT_1_1 yT_1_1 gT_1_1 ++ (wX0 hT_15 aT_15 yT_15 (sIA (sIA (sIA gT_15 11 (upd (gIA gT_15 11) (gI gT_15 18).toNatClampNeg v5)) 12 (upd (gIA gT_15 12) (gI gT_15 18).toNatClampNeg (gI gT_15 8))) 13 (upd (gIA gT_15 13) (gI gT_15 18).toNatClampNeg v1))))))) := Hx_set X (set_r (n := 5) (i := 15) (j := 20) (wG_len rfl) rfl (set_r (n := 1) (i := 14) (j := 15) (rfl) rfl (set_r (n := 1) (i := 13) (j := 14) (wG_len rfl) rfl (set_r (n := 2) (i := 11) (j := 13) (wG_len rfl) rfl (wG_sIA (i := 10) (k := 13) ndX0 rfl rfl))))) hP hD hS
      refine lv_aload_n hx hb dX5_readFormula_172 rfl (lv_at hl 1 rfl) ?_
      obtain ⟨h_11, hF⟩ := grd_some hF
      refine va_get (D := D.1) (ci := 5) (v := .ref hT_15) (C := RX5) (T := TX5) (N := 18) hx hb hts wi_X5 hown X.1 X.2.1 0 rfl rfl 15 (by decide) (hts _ q3_66) (fun _ h9 => h9) ((fl_get (by decide)).trans (rf_eq h_11)) dX5_readFormula_173 ?_
      refine va_getN (D := D.1) (ci := 0) (v := .ref (aT_15 14)) (C := RX0) (T := TX0) (N := 19) hx hb hts wi_X0 hown X.1 X.2.1 9 rfl rfl 14 (by decide) (X.2.2.2.2.2.1.use q2_13 rfl) (fun _ h9 => h9) (fl_get (by decide)) dX5_readFormula_176 ?_
      refine lv_iload hx hb dX5_readFormula_179 (lv_at hl 0 rfl) ?_
      refine lv_iload_n hx hb dX5_readFormula_181 rfl (lv_at hl 3 rfl) ?_
      obtain ⟨h_12, hF⟩ := grd_some hF
      refine va_iast (D := D.1) (f := gIA gT_15 14) hx hb X.1 X.2.1 X.2.2.1 X.2.2.2.1 21 17 rfl rfl (inB_ok h_12) dX5_readFormula_182 (fun H locs hP hD hS => ?_)
      have X : Hx D (tX5 yT ++ (tTP yT_0 ++ (tX7 yT_1 ++ (tX6 yT_1_1 ++ (tX0 yT_15))))) A s H locs (wX5 hT aT yT gT ++ (wTP (aT 0) aT_0 yT_0 gT_0 ++ (wX7 (aT 1) (va_up aT_1 0 (aT 0)) yT_1 gT_1 ++ (wX6 ((va_up aT_1 0 (aT 0)) 1) aT_1_1 yT_1_1 gT_1_1 ++ (wX0 hT_15 aT_15 yT_15 (sIA (sIA (sIA (sIA gT_15 11 (upd (gIA gT_15 11) (gI gT_15 18).toNatClampNeg v5)) 12 (upd (gIA gT_15 12) (gI gT_15 18).toNatClampNeg (gI gT_15 8))) 13 (upd (gIA gT_15 13) (gI gT_15 18).toNatClampNeg v1)) 14 (upd (gIA gT_15 14) (gI gT_15 18).toNatClampNeg v2))))))) := Hx_set X (set_r (n := 5) (i := 16) (j := 21) (wG_len rfl) rfl (set_r (n := 1) (i := 15) (j := 16) (rfl) rfl (set_r (n := 1) (i := 14) (j := 15) (wG_len rfl) rfl (set_r (n := 2) (i := 12) (j := 14) (wG_len rfl) rfl (wG_sIA (i := 11) (k := 14) ndX0 rfl rfl))))) hP hD hS
      refine lv_aload_n hx hb dX5_readFormula_183 rfl (lv_at hl 1 rfl) ?_
      obtain ⟨h_13, hF⟩ := grd_some hF
      refine va_get (D := D.1) (ci := 5) (v := .ref hT_15) (C := RX5) (T := TX5) (N := 18) hx hb hts wi_X5 hown X.1 X.2.1 0 rfl rfl 15 (by decide) (hts _ q3_66) (fun _ h9 => h9) ((fl_get (by decide)).trans (rf_eq h_13)) dX5_readFormula_184 ?_
      refine va_getN (D := D.1) (ci := 0) (v := .ref (aT_15 15)) (C := RX0) (T := TX0) (N := 19) hx hb hts wi_X0 hown X.1 X.2.1 9 rfl rfl 15 (by decide) (X.2.2.2.2.2.1.use q2_16 rfl) (fun _ h9 => h9) (fl_get (by decide)) dX5_readFormula_187 ?_
      refine lv_iload hx hb dX5_readFormula_190 (lv_at hl 0 rfl) ?_
      refine lv_iload_n hx hb dX5_readFormula_192 rfl (lv_at hl 4 rfl) ?_
      obtain ⟨h_14, hF⟩ := grd_some hF
      refine va_iast (D := D.1) (f := gIA gT_15 15) hx hb X.1 X.2.1 X.2.2.1 X.2.2.2.1 22 18 rfl rfl (inB_ok h_14) dX5_readFormula_193 (fun H locs hP hD hS => ?_)
      have X : Hx D (tX5 yT ++ (tTP yT_0 ++ (tX7 yT_1 ++ (tX6 yT_1_1 ++ (tX0 yT_15))))) A s H locs (wX5 hT aT yT gT ++ (wTP (aT 0) aT_0 yT_0 gT_0 ++ (wX7 (aT 1) (va_up aT_1 0 (aT 0)) yT_1 gT_1 ++ (wX6 ((va_up aT_1 0 (aT 0)) 1) aT_1_1 yT_1_1 gT_1_1 ++ (wX0 hT_15 aT_15 yT_15 (sIA (sIA (sIA (sIA (sIA gT_15 11 (upd (gIA gT_15 11) (gI gT_15 18).toNatClampNeg v5)) 12 (upd (gIA gT_15 12) (gI gT_15 18).toNatClampNeg (gI gT_15 8))) 13 (upd (gIA gT_15 13) (gI gT_15 18).toNatClampNeg v1)) 14 (upd (gIA gT_15 14) (gI gT_15 18).toNatClampNeg v2)) 15 (upd (gIA gT_15 15) (gI gT_15 18).toNatClampNeg v3))))))) := Hx_set X (set_r (n := 5) (i := 17) (j := 22) (wG_len rfl) rfl (set_r (n := 1) (i := 16) (j := 17) (rfl) rfl (set_r (n := 1) (i := 15) (j := 16) (wG_len rfl) rfl (set_r (n := 2) (i := 13) (j := 15) (wG_len rfl) rfl (wG_sIA (i := 12) (k := 15) ndX0 rfl rfl))))) hP hD hS
      refine lv_aload_n hx hb dX5_readFormula_194 rfl (lv_at hl 1 rfl) ?_
      obtain ⟨h_15, hF⟩ := grd_some hF
      refine va_get (D := D.1) (ci := 5) (v := .ref hT_15) (C := RX5) (T := TX5) (N := 18) hx hb hts wi_X5 hown X.1 X.2.1 0 rfl rfl 15 (by decide) (hts _ q3_66) (fun _ h9 => h9) ((fl_get (by decide)).trans (rf_eq h_15)) dX5_readFormula_195 ?_
      refine va_getN (D := D.1) (ci := 0) (v := .ref (aT_15 16)) (C := RX0) (T := TX0) (N := 19) hx hb hts wi_X0 hown X.1 X.2.1 9 rfl rfl 16 (by decide) (X.2.2.2.2.2.1.use q2_19 rfl) (fun _ h9 => h9) (fl_get (by decide)) dX5_readFormula_198 ?_
      refine lv_iload hx hb dX5_readFormula_201 (lv_at hl 0 rfl) ?_
      refine lv_iload hx hb dX5_readFormula_203 (lv_at hl 5 rfl) ?_
      obtain ⟨h_16, hF⟩ := grd_some hF
      refine va_iast (D := D.1) (f := gIA gT_15 16) hx hb X.1 X.2.1 X.2.2.1 X.2.2.2.1 23 19 rfl rfl (inB_ok h_16) dX5_readFormula_205 (fun H locs hP hD hS => ?_)
      have X : Hx D (tX5 yT ++ (tTP yT_0 ++ (tX7 yT_1 ++ (tX6 yT_1_1 ++ (tX0 yT_15))))) A s H locs (wX5 hT aT yT gT ++ (wTP (aT 0) aT_0 yT_0 gT_0 ++ (wX7 (aT 1) (va_up aT_1 0 (aT 0)) yT_1 gT_1 ++ (wX6 ((va_up aT_1 0 (aT 0)) 1) aT_1_1 yT_1_1 gT_1_1 ++ (wX0 hT_15 aT_15 yT_15 (sIA (sIA (sIA (sIA (sIA (sIA gT_15 11 (upd (gIA gT_15 11) (gI gT_15 18).toNatClampNeg v5)) 12 (upd (gIA gT_15 12) (gI gT_15 18).toNatClampNeg (gI gT_15 8))) 13 (upd (gIA gT_15 13) (gI gT_15 18).toNatClampNeg v1)) 14 (upd (gIA gT_15 14) (gI gT_15 18).toNatClampNeg v2)) 15 (upd (gIA gT_15 15) (gI gT_15 18).toNatClampNeg v3)) 16 (upd (gIA gT_15 16) (gI gT_15 18).toNatClampNeg v4))))))) := Hx_set X (set_r (n := 5) (i := 18) (j := 23) (wG_len rfl) rfl (set_r (n := 1) (i := 17) (j := 18) (rfl) rfl (set_r (n := 1) (i := 16) (j := 17) (wG_len rfl) rfl (set_r (n := 2) (i := 14) (j := 16) (wG_len rfl) rfl (wG_sIA (i := 13) (k := 16) ndX0 rfl rfl))))) hP hD hS
      refine lv_aload_n hx hb dX5_readFormula_206 rfl (lv_at hl 1 rfl) ?_
      obtain ⟨h_17, hF⟩ := grd_some hF
      refine va_get (D := D.1) (ci := 5) (v := .ref hT_15) (C := RX5) (T := TX5) (N := 18) hx hb hts wi_X5 hown X.1 X.2.1 0 rfl rfl 15 (by decide) (hts _ q3_66) (fun _ h9 => h9) ((fl_get (by decide)).trans (rf_eq h_17)) dX5_readFormula_207 ?_
      refine lv_dup hx hb dX5_readFormula_210 rfl ?_
      refine va_getN (D := D.1) (ci := 0) (v := .int (gI gT_15 18)) (C := RX0) (T := TX0) (N := 19) hx hb hts wi_X0 hown X.1 X.2.1 9 rfl rfl 18 (by decide) (X.2.2.2.2.2.1.use q2_27 rfl) (fun _ h9 => h9) (fl_get (by decide)) dX5_readFormula_211 ?_
      refine lv_iconst (v := (1 : Int32)) hx hb dX5_readFormula_214 (by decide) ?_
      refine lv_iadd hx hb dX5_readFormula_215 ?_
      refine va_putN (D := D.1) (ci := 0) (v := .int ((gI gT_15 18) + (1 : Int32))) (ty := .int) (C := RX0) (T := TX0) (N := 19) hx hb hts wi_X0 tyX0 tyX0_ok nmX0 hown X.1 X.2.1 X.2.2.1 X.2.2.2.1 9 rfl rfl 18 (by decide) (X.2.2.2.2.2.1.use q2_27 rfl) (fun _ h9 => h9) rfl (by decide +kernel) rfl rfl (by rw [List.length_map, List.length_range]; decide) dX5_readFormula_216 (fun H locs hP hD hS => ?_)
      have X : Hx D (tX5 yT ++ (tTP yT_0 ++ (tX7 yT_1 ++ (tX6 yT_1_1 ++ (tX0 yT_15))))) A s H locs (wX5 hT aT yT gT ++ (wTP (aT 0) aT_0 yT_0 gT_0 ++ (wX7 (aT 1) (va_up aT_1 0 (aT 0)) yT_1 gT_1 ++ (wX6 ((va_up aT_1 0 (aT 0)) 1) aT_1_1 yT_1_1 gT_1_1 ++ (wX0 hT_15 aT_15 yT_15 (sI (sIA (sIA (sIA (sIA (sIA (sIA gT_15 11 (upd (gIA gT_15 11) (gI gT_15 18).toNatClampNeg v5)) 12 (upd (gIA gT_15 12) (gI gT_15 18).toNatClampNeg (gI gT_15 8))) 13 (upd (gIA gT_15 13) (gI gT_15 18).toNatClampNeg v1)) 14 (upd (gIA gT_15 14) (gI gT_15 18).toNatClampNeg v2)) 15 (upd (gIA gT_15 15) (gI gT_15 18).toNatClampNeg v3)) 16 (upd (gIA gT_15 16) (gI gT_15 18).toNatClampNeg v4)) 18 ((gI gT_15 18) + (1 : Int32)))))))) := Hx_set X (set_r (n := 5) (i := 4) (j := 9) (wG_len rfl) rfl (set_r (n := 1) (i := 3) (j := 4) (rfl) rfl (set_r (n := 1) (i := 2) (j := 3) (wG_len rfl) rfl (set_r (n := 2) (i := 0) (j := 2) (wG_len rfl) rfl (wG_sI (k := 18) rfl))))) hP hD hS
      exact (k_X5_readFormula_219 l D hT aT yT aT_0 yT_0 aT_1 yT_1 aT_1_1 yT_1_1 hT_15 aT_15 yT_15 n rec IH) C X (lv_sub hl [7] rfl) hF
set_option maxHeartbeats 4000000 in
set_option maxRecDepth 100000 in
theorem k_X5_readFormula_100 (l : Launch) (D : Dx) (hT : Nat) (aT : Nat → Nat) (yT : Nat → ClassId) (aT_0 : Nat → Nat) (yT_0 : Nat → ClassId) (aT_1 : Nat → Nat) (yT_1 : Nat → ClassId) (aT_1_1 : Nat → Nat) (yT_1_1 : Nat → ClassId) (hT_15 : Nat) (aT_15 : Nat → Nat) (yT_15 : Nat → ClassId) (n : Nat) (rec : (Gs → Gs → Gs → Gs → Gs → Int32 → Int32 → Int32 → Int32 → Int32 → Int32 → Int32 → Option (Int32 × Gs × Gs × Gs))) (IH : SH_X5_readFormula l D hT aT yT aT_0 yT_0 aT_1 yT_1 aT_1_1 yT_1_1 hT_15 aT_15 yT_15 rec) : S_X5_readFormula_100 l D hT aT yT aT_0 yT_0 aT_1 yT_1 aT_1_1 yT_1_1 hT_15 aT_15 yT_15 (b_X5_readFormula_100 n hT_15 rec) := by
  intro p e s m args below meth c H locs A ls gT gT_0 gT_1 gT_1_1 gT_15 v1 v2 v3 v4 v5 v6 v7 q C X hl hF
  obtain ⟨hx, hb, hr, hml, hown, hts, hlk⟩ := id C
  unfold b_X5_readFormula_100 at hF
  refine lv_iinc (v := v7 + (1 : Int32)) (lv' := [(7, .int (v7 + (1 : Int32))), (0, .ref hT), (1, .int v1), (2, .int v2), (3, .int v3), (4, .int v4), (5, .int v5), (6, .int v6)]) hx hb dX5_readFormula_100 hl (k := 7) rfl rfl (by decide) rfl (fun ls hl => ?_)
  refine lv_goto (tgt := 25) hx hb dX5_readFormula_103 (by decide) ?_
  exact IH C X (lv_sub hl [1, 2, 3, 4, 5, 6, 7, 0] rfl) hF
set_option maxHeartbeats 4000000 in
set_option maxRecDepth 100000 in
theorem k_X5_readFormula_80 (l : Launch) (D : Dx) (hT : Nat) (aT : Nat → Nat) (yT : Nat → ClassId) (aT_0 : Nat → Nat) (yT_0 : Nat → ClassId) (aT_1 : Nat → Nat) (yT_1 : Nat → ClassId) (aT_1_1 : Nat → Nat) (yT_1_1 : Nat → ClassId) (hT_15 : Nat) (aT_15 : Nat → Nat) (yT_15 : Nat → ClassId) (n : Nat) (rec : (Gs → Gs → Gs → Gs → Gs → Int32 → Int32 → Int32 → Int32 → Int32 → Int32 → Int32 → Option (Int32 × Gs × Gs × Gs))) (IH : SH_X5_readFormula l D hT aT yT aT_0 yT_0 aT_1 yT_1 aT_1_1 yT_1_1 hT_15 aT_15 yT_15 rec) : S_X5_readFormula_80 l D hT aT yT aT_0 yT_0 aT_1 yT_1 aT_1_1 yT_1_1 hT_15 aT_15 yT_15 (b_X5_readFormula_80 n hT_15 rec) := by
  intro p e s m args below meth c H locs A ls gT gT_0 gT_1 gT_1_1 gT_15 v1 v2 v3 v4 v5 v6 v7 q C X hl hF
  obtain ⟨hx, hb, hr, hml, hown, hts, hlk⟩ := id C
  unfold b_X5_readFormula_80 at hF
  refine lv_aload_n hx hb dX5_readFormula_80 rfl (lv_at hl 0 rfl) ?_
  refine va_get (D := D.1) (ci := 5) (v := .int (gI gT 10)) (C := RX5) (T := TX5) (N := 18) hx hb hts wi_X5 hown X.1 X.2.1 0 rfl rfl 10 (by decide) (hts _ q3_61) (fun _ h9 => h9) (fl_get (by decide)) dX5_readFormula_81 ?_
  refine lv_if_eq (tgt := 100) hx hb dX5_readFormula_84 (by decide) (fun c => ?_) (fun c => ?_)
  · replace hF := iT c hF
    exact (k_X5_readFormula_100 l D hT aT yT aT_0 yT_0 aT_1 yT_1 aT_1_1 yT_1_1 hT_15 aT_15 yT_15 n rec IH) C X (lv_sub hl [0, 1, 2, 3, 4, 5, 6, 7] rfl) hF
  · replace hF := iF c hF
    refine lv_iload hx hb dX5_readFormula_87 (lv_at hl 6 rfl) ?_
    refine lv_iconst (v := (1 : Int32)) hx hb dX5_readFormula_89 (by decide) ?_
    refine lv_icmp_le (tgt := 100) hx hb dX5_readFormula_90 (by decide) (fun c => ?_) (fun c => ?_)
    · replace hF := iT c hF
      exact (k_X5_readFormula_100 l D hT aT yT aT_0 yT_0 aT_1 yT_1 aT_1_1 yT_1_1 hT_15 aT_15 yT_15 n rec IH) C X (lv_sub hl [0, 1, 2, 3, 4, 5, 6, 7] rfl) hF
    · replace hF := iF c hF
      refine lv_aload_n hx hb dX5_readFormula_93 rfl (lv_at hl 0 rfl) ?_
      refine va_get (D := D.1) (ci := 5) (v := .ref (aT 1)) (C := RX5) (T := TX5) (N := 18) hx hb hts wi_X5 hown X.1 X.2.1 0 rfl rfl 1 (by decide) (hts _ q3_52) (fun _ h9 => h9) (fl_get (by decide)) dX5_readFormula_94 ?_
      obtain ⟨q_20, hc_21, hF⟩ := bnd_some hF
      refine cV_v (As := []) (rest := []) C X (c_X7_advance l D (aT 1) (va_up aT_1 0 (aT 0)) yT_1 aT_0 yT_0 aT_1_1 yT_1_1 n gT_1 gT_0 gT_1_1 q_20 hc_21 _) (cwV 0 hts (good_V q4_61 q3_131 q3_132 q1_12 q3_133) rfl rfl rfl (by decide +kernel) ⟨Nat.le_of_ble_eq_true rfl, Nat.le_of_ble_eq_true rfl⟩) (va_recv X.1 X.2.1 (ci := 7) (q0 := 6) rfl rfl) (X.1.sub (tys' := tX7 yT_1 ++ (tTP yT_0 ++ (tX6 yT_1_1))) [4, 5] rfl) (X.2.1.sub (ws' := wX7 (aT 1) (va_up aT_1 0 (aT 0)) yT_1 gT_1 ++ (wTP (aT 0) aT_0 yT_0 gT_0 ++ (wX6 ((va_up aT_1 0 (aT 0)) 1) aT_1_1 yT_1_1 gT_1_1))) [6, 5, 7, 8] rfl) (X.2.2.1.sub (ws' := wX7 (aT 1) (va_up aT_1 0 (aT 0)) yT_1 gT_1 ++ (wTP (aT 0) aT_0 yT_0 gT_0 ++ (wX6 ((va_up aT_1 0 (aT 0)) 1) aT_1_1 yT_1_1 gT_1_1))) [6, 5, 7, 8] (by decide) rfl) (free_of (wC := wX7 (aT 1) (va_up aT_1 0 (aT 0)) yT_1 gT_1 ++ (wTP (aT 0) aT_0 yT_0 gT_0 ++ (wX6 ((va_up aT_1 0 (aT 0)) 1) aT_1_1 yT_1_1 gT_1_1))) (isC := [6, 5, 7, 8]) X rfl) hl.1 rfl rfl (Nat.le_of_ble_eq_true rfl) dX5_readFormula_97 ⟨Nat.le_of_ble_eq_true rfl, Nat.le_of_ble_eq_true rfl⟩ (fun t H1 locs1 ht hB hk hS => ?_)
      have X : Hx D (tX5 yT ++ (tTP yT_0 ++ (tX7 yT_1 ++ (tX6 yT_1_1 ++ (tX0 yT_15))))) A s H1 locs1 (wX5 hT aT yT gT ++ (wTP (aT 0) aT_0 yT_0 gT_0 ++ (wX7 (aT 1) (va_up aT_1 0 (aT 0)) yT_1 q_20 ++ (wX6 ((va_up aT_1 0 (aT 0)) 1) aT_1_1 yT_1_1 gT_1_1 ++ (wX0 hT_15 aT_15 yT_15 gT_15))))) := Hx_after (isC := [6, 5, 7, 8]) (isR := [0, 1, 2, 3, 4, 9, 10, 11, 12, 13, 14, 15, 16, 17, 18, 19, 20, 21, 22, 23, 24]) (pm := [0, 1, 2, 3, 4, 22, 21, 23, 24, 5, 6, 7, 8, 9, 10, 11, 12, 13, 14, 15, 16, 17, 18, 19, 20]) (wr := wX5 hT aT yT gT ++ (wX0 hT_15 aT_15 yT_15 gT_15)) X ⟨rfl, rfl, by decide, by decide, rfl, by decide⟩ ht hB hk hS
      clear hk hS ht hB
      generalize H1 = H at X ⊢
      generalize locs1 = locs at X ⊢
      exact (k_X5_readFormula_100 l D hT aT yT aT_0 yT_0 aT_1 yT_1 aT_1_1 yT_1_1 hT_15 aT_15 yT_15 n rec IH) C X (lv_sub hl [0, 1, 2, 3, 4, 5, 6, 7] rfl) hF
set_option maxHeartbeats 4000000 in
set_option maxRecDepth 100000 in
theorem k_X5_readFormula_78 (l : Launch) (D : Dx) (hT : Nat) (aT : Nat → Nat) (yT : Nat → ClassId) (aT_0 : Nat → Nat) (yT_0 : Nat → ClassId) (aT_1 : Nat → Nat) (yT_1 : Nat → ClassId) (aT_1_1 : Nat → Nat) (yT_1_1 : Nat → ClassId) (hT_15 : Nat) (aT_15 : Nat → Nat) (yT_15 : Nat → ClassId) (n : Nat) (rec : (Gs → Gs → Gs → Gs → Gs → Int32 → Int32 → Int32 → Int32 → Int32 → Int32 → Int32 → Option (Int32 × Gs × Gs × Gs))) (IH : SH_X5_readFormula l D hT aT yT aT_0 yT_0 aT_1 yT_1 aT_1_1 yT_1_1 hT_15 aT_15 yT_15 rec) : S_X5_readFormula_78 l D hT aT yT aT_0 yT_0 aT_1 yT_1 aT_1_1 yT_1_1 hT_15 aT_15 yT_15 (b_X5_readFormula_78 n hT_15 rec) := by
  intro p e s m args below meth c H locs A ls gT gT_0 gT_1 gT_1_1 gT_15 v1 v2 v3 v4 v5 v7 s0 q C X hl hF
  obtain ⟨hx, hb, hr, hml, hown, hts, hlk⟩ := id C
  unfold b_X5_readFormula_78 at hF
  refine lv_istore (lv' := [(6, .int s0), (0, .ref hT), (1, .int v1), (2, .int v2), (3, .int v3), (4, .int v4), (5, .int v5), (7, .int v7)]) hx hb dX5_readFormula_78 hl (by decide) rfl (fun ls hl => ?_)
  exact (k_X5_readFormula_80 l D hT aT yT aT_0 yT_0 aT_1 yT_1 aT_1_1 yT_1_1 hT_15 aT_15 yT_15 n rec IH) C X (lv_sub hl [1, 2, 3, 4, 5, 6, 0, 7] rfl) hF
set_option maxHeartbeats 4000000 in
set_option maxRecDepth 100000 in
theorem k_X5_readFormula_25 (l : Launch) (D : Dx) (hT : Nat) (aT : Nat → Nat) (yT : Nat → ClassId) (aT_0 : Nat → Nat) (yT_0 : Nat → ClassId) (aT_1 : Nat → Nat) (yT_1 : Nat → ClassId) (aT_1_1 : Nat → Nat) (yT_1_1 : Nat → ClassId) (hT_15 : Nat) (aT_15 : Nat → Nat) (yT_15 : Nat → ClassId) (n : Nat) (rec : (Gs → Gs → Gs → Gs → Gs → Int32 → Int32 → Int32 → Int32 → Int32 → Int32 → Int32 → Option (Int32 × Gs × Gs × Gs))) (IH : SH_X5_readFormula l D hT aT yT aT_0 yT_0 aT_1 yT_1 aT_1_1 yT_1_1 hT_15 aT_15 yT_15 rec) : S_X5_readFormula_25 l D hT aT yT aT_0 yT_0 aT_1 yT_1 aT_1_1 yT_1_1 hT_15 aT_15 yT_15 (h_X5_readFormula_25 n hT_15 rec) := by
  intro p e s m args below meth c H locs A ls gT gT_0 gT_1 gT_1_1 gT_15 v1 v2 v3 v4 v5 v6 v7 q C X hl hF
  obtain ⟨hx, hb, hr, hml, hown, hts, hlk⟩ := id C
  unfold h_X5_readFormula_25 at hF
  refine lv_iload hx hb dX5_readFormula_25 (lv_at hl 7 rfl) ?_
  refine lv_sipush (v := (9000 : Int32)) hx hb dX5_readFormula_27 (by decide) ?_
  refine lv_icmp_gt (tgt := 106) hx hb dX5_readFormula_30 (by decide) (fun c => ?_) (fun c => ?_)
  · replace hF := iT c hF
    exact (k_X5_readFormula_106 l D hT aT yT aT_0 yT_0 aT_1 yT_1 aT_1_1 yT_1_1 hT_15 aT_15 yT_15 n rec IH) C X (lv_sub hl [0, 1, 2, 3, 4, 5, 6] rfl) hF
  · replace hF := iF c hF
    refine lv_iload hx hb dX5_readFormula_33 (lv_at hl 6 rfl) ?_
    refine lv_iconst (v := (1 : Int32)) hx hb dX5_readFormula_35 (by decide) ?_
    refine lv_icmp_le (tgt := 106) hx hb dX5_readFormula_36 (by decide) (fun c => ?_) (fun c => ?_)
    · replace hF := iT c hF
      exact (k_X5_readFormula_106 l D hT aT yT aT_0 yT_0 aT_1 yT_1 aT_1_1 yT_1_1 hT_15 aT_15 yT_15 n rec IH) C X (lv_sub hl [0, 1, 2, 3, 4, 5, 6] rfl) hF
    · replace hF := iF c hF
      refine lv_aload_n hx hb dX5_readFormula_39 rfl (lv_at hl 0 rfl) ?_
      refine lv_iconst (v := (1 : Int32)) hx hb dX5_readFormula_40 (by decide) ?_
      refine va_put (D := D.1) (ci := 5) (v := .int (1 : Int32)) (ty := .boolean) (C := RX5) (T := TX5) (N := 18) hx hb hts wi_X5 tyX5 tyX5_ok nmX5 hown X.1 X.2.1 X.2.2.1 X.2.2.2.1 0 rfl rfl 10 (by decide) (hts _ q3_61) (fun _ h9 => h9) rfl (by decide +kernel) rfl rfl (by rw [List.length_map, List.length_range]; decide) dX5_readFormula_41 (fun H locs hP hD hS => ?_)
      have X : Hx D (tX5 yT ++ (tTP yT_0 ++ (tX7 yT_1 ++ (tX6 yT_1_1 ++ (tX0 yT_15))))) A s H locs (wX5 hT aT yT (sI gT 10 (1 : Int32)) ++ (wTP (aT 0) aT_0 yT_0 gT_0 ++ (wX7 (aT 1) (va_up aT_1 0 (aT 0)) yT_1 gT_1 ++ (wX6 ((va_up aT_1 0 (aT 0)) 1) aT_1_1 yT_1_1 gT_1_1 ++ (wX0 hT_15 aT_15 yT_15 gT_15))))) := Hx_set X (set_l (by rw [wG_len (m := 5) rfl]; decide) (wG_sI (k := 10) rfl)) hP hD hS
      refine lv_iload hx hb dX5_readFormula_44 (lv_at hl 6 rfl) ?_
      refine lv_iconst (v := (3 : Int32)) hx hb dX5_readFormula_46 (by decide) ?_
      refine lv_icmp_ne (tgt := 59) hx hb dX5_readFormula_47 (by decide) (fun c => ?_) (fun c => ?_)
      · replace hF := iF c hF
        refine lv_iload hx hb dX5_readFormula_59 (lv_at hl 6 rfl) ?_
        refine lv_iconst (v := (2 : Int32)) hx hb dX5_readFormula_61 (by decide) ?_
        refine lv_icmp_ne (tgt := 72) hx hb dX5_readFormula_62 (by decide) (fun c => ?_) (fun c => ?_)
        · replace hF := iF c hF
          refine lv_aload_n hx hb dX5_readFormula_72 rfl (lv_at hl 0 rfl) ?_
          refine lv_iload hx hb dX5_readFormula_73 (lv_at hl 6 rfl) ?_
          obtain ⟨q_18, hc_19, hF⟩ := bnd_some hF
          refine cV_i (As := [.int v6]) (rest := []) C X (c_X5_readBehind l D hT aT yT (va_up aT_1 0 (aT 0)) yT_1 hT_15 aT_15 yT_15 (sI gT 10 (1 : Int32)) gT_1 gT_15 v6 q_18 hc_19 _) (cwV 1 hts (good_V q4_160 q4_162 q0_32 q1_10 q4_163) rfl rfl rfl (by decide +kernel) ⟨Nat.le_of_ble_eq_true rfl, Nat.le_of_ble_eq_true rfl⟩) (va_recv X.1 X.2.1 (ci := 5) (q0 := 0) rfl rfl) (X.1.sub (tys' := tX5 yT ++ (tX7 yT_1 ++ (tX0 yT_15))) [0, 1, 2, 3, 6, 7, 8, 9, 10, 11, 12, 13, 14, 15, 16, 17, 18, 19, 20] rfl) (X.2.1.sub (ws' := wX5 hT aT yT (sI gT 10 (1 : Int32)) ++ (wX7 (aT 1) (va_up aT_1 0 (aT 0)) yT_1 gT_1 ++ (wX0 hT_15 aT_15 yT_15 gT_15))) [0, 1, 2, 3, 4, 6, 9, 10, 11, 12, 13, 14, 15, 16, 17, 18, 19, 20, 21, 22, 23, 24] rfl) (X.2.2.1.sub (ws' := wX5 hT aT yT (sI gT 10 (1 : Int32)) ++ (wX7 (aT 1) (va_up aT_1 0 (aT 0)) yT_1 gT_1 ++ (wX0 hT_15 aT_15 yT_15 gT_15))) [0, 1, 2, 3, 4, 6, 9, 10, 11, 12, 13, 14, 15, 16, 17, 18, 19, 20, 21, 22, 23, 24] (by decide) rfl) (free_of (wC := wX5 hT aT yT (sI gT 10 (1 : Int32)) ++ (wX7 (aT 1) (va_up aT_1 0 (aT 0)) yT_1 gT_1 ++ (wX0 hT_15 aT_15 yT_15 gT_15))) (isC := [0, 1, 2, 3, 4, 6, 9, 10, 11, 12, 13, 14, 15, 16, 17, 18, 19, 20, 21, 22, 23, 24]) X rfl) hl.1 rfl rfl (Nat.le_of_ble_eq_true rfl) dX5_readFormula_75 ⟨Nat.le_of_ble_eq_true rfl, Nat.le_of_ble_eq_true rfl⟩ (fun t H1 locs1 ht hB hk hS => ?_)
          have X : Hx D (tX5 yT ++ (tTP yT_0 ++ (tX7 yT_1 ++ (tX6 yT_1_1 ++ (tX0 yT_15))))) A s H1 locs1 (wX5 hT aT yT q_18.2.1 ++ (wTP (aT 0) aT_0 yT_0 gT_0 ++ (wX7 (aT 1) (va_up aT_1 0 (aT 0)) yT_1 gT_1 ++ (wX6 ((va_up aT_1 0 (aT 0)) 1) aT_1_1 yT_1_1 gT_1_1 ++ (wX0 hT_15 aT_15 yT_15 q_18.2.2))))) := Hx_after (isC := [0, 1, 2, 3, 4, 6, 9, 10, 11, 12, 13, 14, 15, 16, 17, 18, 19, 20, 21, 22, 23, 24]) (isR := [5, 7, 8]) (pm := [3, 4, 5, 6, 7, 0, 8, 1, 2, 9, 10, 11, 12, 13, 14, 15, 16, 17, 18, 19, 20, 21, 22, 23, 24]) (wr := wTP (aT 0) aT_0 yT_0 gT_0 ++ (wX6 ((va_up aT_1 0 (aT 0)) 1) aT_1_1 yT_1_1 gT_1_1)) X ⟨rfl, rfl, by decide, by decide, rfl, by decide⟩ ht hB hk hS
          clear hk hS ht hB
          generalize H1 = H at X ⊢
          generalize locs1 = locs at X ⊢
          exact (k_X5_readFormula_78 l D hT aT yT aT_0 yT_0 aT_1 yT_1 aT_1_1 yT_1_1 hT_15 aT_15 yT_15 n rec IH) C X (lv_sub hl [0, 1, 2, 3, 4, 5, 7] rfl) hF
        · replace hF := iT c hF
          refine lv_aload_n hx hb dX5_readFormula_65 rfl (lv_at hl 0 rfl) ?_
          obtain ⟨q_22, hc_23, hF⟩ := bnd_some hF
          refine cV_i (As := []) (rest := []) C X (c_X5_readPart l D hT aT yT (va_up aT_1 0 (aT 0)) yT_1 hT_15 aT_15 yT_15 (sI gT 10 (1 : Int32)) gT_1 gT_15 q_22 hc_23 _) (cwV 0 hts (good_V q4_152 q4_154 q0_30 q1_10 q4_155) rfl rfl rfl (by decide +kernel) ⟨Nat.le_of_ble_eq_true rfl, Nat.le_of_ble_eq_true rfl⟩) (va_recv X.1 X.2.1 (ci := 5) (q0 := 0) rfl rfl) (X.1.sub (tys' := tX5 yT ++ (tX7 yT_1 ++ (tX0 yT_15))) [0, 1, 2, 3, 6, 7, 8, 9, 10, 11, 12, 13, 14, 15, 16, 17, 18, 19, 20] rfl) (X.2.1.sub (ws' := wX5 hT aT yT (sI gT 10 (1 : Int32)) ++ (wX7 (aT 1) (va_up aT_1 0 (aT 0)) yT_1 gT_1 ++ (wX0 hT_15 aT_15 yT_15 gT_15))) [0, 1, 2, 3, 4, 6, 9, 10, 11, 12, 13, 14, 15, 16, 17, 18, 19, 20, 21, 22, 23, 24] rfl) (X.2.2.1.sub (ws' := wX5 hT aT yT (sI gT 10 (1 : Int32)) ++ (wX7 (aT 1) (va_up aT_1 0 (aT 0)) yT_1 gT_1 ++ (wX0 hT_15 aT_15 yT_15 gT_15))) [0, 1, 2, 3, 4, 6, 9, 10, 11, 12, 13, 14, 15, 16, 17, 18, 19, 20, 21, 22, 23, 24] (by decide) rfl) (free_of (wC := wX5 hT aT yT (sI gT 10 (1 : Int32)) ++ (wX7 (aT 1) (va_up aT_1 0 (aT 0)) yT_1 gT_1 ++ (wX0 hT_15 aT_15 yT_15 gT_15))) (isC := [0, 1, 2, 3, 4, 6, 9, 10, 11, 12, 13, 14, 15, 16, 17, 18, 19, 20, 21, 22, 23, 24]) X rfl) hl.1 rfl rfl (Nat.le_of_ble_eq_true rfl) dX5_readFormula_66 ⟨Nat.le_of_ble_eq_true rfl, Nat.le_of_ble_eq_true rfl⟩ (fun t H1 locs1 ht hB hk hS => ?_)
          have X : Hx D (tX5 yT ++ (tTP yT_0 ++ (tX7 yT_1 ++ (tX6 yT_1_1 ++ (tX0 yT_15))))) A s H1 locs1 (wX5 hT aT yT q_22.2.1 ++ (wTP (aT 0) aT_0 yT_0 gT_0 ++ (wX7 (aT 1) (va_up aT_1 0 (aT 0)) yT_1 gT_1 ++ (wX6 ((va_up aT_1 0 (aT 0)) 1) aT_1_1 yT_1_1 gT_1_1 ++ (wX0 hT_15 aT_15 yT_15 q_22.2.2))))) := Hx_after (isC := [0, 1, 2, 3, 4, 6, 9, 10, 11, 12, 13, 14, 15, 16, 17, 18, 19, 20, 21, 22, 23, 24]) (isR := [5, 7, 8]) (pm := [3, 4, 5, 6, 7, 0, 8, 1, 2, 9, 10, 11, 12, 13, 14, 15, 16, 17, 18, 19, 20, 21, 22, 23, 24]) (wr := wTP (aT 0) aT_0 yT_0 gT_0 ++ (wX6 ((va_up aT_1 0 (aT 0)) 1) aT_1_1 yT_1_1 gT_1_1)) X ⟨rfl, rfl, by decide, by decide, rfl, by decide⟩ ht hB hk hS
          clear hk hS ht hB
          generalize H1 = H at X ⊢
          generalize locs1 = locs at X ⊢
          refine lv_goto (tgt := 78) hx hb dX5_readFormula_69 (by decide) ?_
          exact (k_X5_readFormula_78 l D hT aT yT aT_0 yT_0 aT_1 yT_1 aT_1_1 yT_1_1 hT_15 aT_15 yT_15 n rec IH) C X (lv_sub hl [0, 1, 2, 3, 4, 5, 7] rfl) hF
      · replace hF := iT c hF
        refine lv_aload_n hx hb dX5_readFormula_50 rfl (lv_at hl 0 rfl) ?_
        obtain ⟨q_24, hc_25, hF⟩ := bnd_some hF
        refine cV_i (As := []) (rest := []) C X (c_X5_readSign l D hT aT yT (va_up aT_1 0 (aT 0)) yT_1 hT_15 aT_15 yT_15 n (sI gT 10 (1 : Int32)) gT_1 gT_15 q_24 hc_25 _) (cwV 0 hts (good_V q4_86 q4_88 q0_16 q1_10 q4_89) rfl rfl rfl (by decide +kernel) ⟨Nat.le_of_ble_eq_true rfl, Nat.le_of_ble_eq_true rfl⟩) (va_recv X.1 X.2.1 (ci := 5) (q0 := 0) rfl rfl) (X.1.sub (tys' := tX5 yT ++ (tX7 yT_1 ++ (tX0 yT_15))) [0, 1, 2, 3, 6, 7, 8, 9, 10, 11, 12, 13, 14, 15, 16, 17, 18, 19, 20] rfl) (X.2.1.sub (ws' := wX5 hT aT yT (sI gT 10 (1 : Int32)) ++ (wX7 (aT 1) (va_up aT_1 0 (aT 0)) yT_1 gT_1 ++ (wX0 hT_15 aT_15 yT_15 gT_15))) [0, 1, 2, 3, 4, 6, 9, 10, 11, 12, 13, 14, 15, 16, 17, 18, 19, 20, 21, 22, 23, 24] rfl) (X.2.2.1.sub (ws' := wX5 hT aT yT (sI gT 10 (1 : Int32)) ++ (wX7 (aT 1) (va_up aT_1 0 (aT 0)) yT_1 gT_1 ++ (wX0 hT_15 aT_15 yT_15 gT_15))) [0, 1, 2, 3, 4, 6, 9, 10, 11, 12, 13, 14, 15, 16, 17, 18, 19, 20, 21, 22, 23, 24] (by decide) rfl) (free_of (wC := wX5 hT aT yT (sI gT 10 (1 : Int32)) ++ (wX7 (aT 1) (va_up aT_1 0 (aT 0)) yT_1 gT_1 ++ (wX0 hT_15 aT_15 yT_15 gT_15))) (isC := [0, 1, 2, 3, 4, 6, 9, 10, 11, 12, 13, 14, 15, 16, 17, 18, 19, 20, 21, 22, 23, 24]) X rfl) hl.1 rfl rfl (Nat.le_of_ble_eq_true rfl) dX5_readFormula_51 ⟨Nat.le_of_ble_eq_true rfl, Nat.le_of_ble_eq_true rfl⟩ (fun t H1 locs1 ht hB hk hS => ?_)
        have X : Hx D (tX5 yT ++ (tTP yT_0 ++ (tX7 yT_1 ++ (tX6 yT_1_1 ++ (tX0 yT_15))))) A s H1 locs1 (wX5 hT aT yT q_24.2.1 ++ (wTP (aT 0) aT_0 yT_0 gT_0 ++ (wX7 (aT 1) (va_up aT_1 0 (aT 0)) yT_1 gT_1 ++ (wX6 ((va_up aT_1 0 (aT 0)) 1) aT_1_1 yT_1_1 gT_1_1 ++ (wX0 hT_15 aT_15 yT_15 q_24.2.2))))) := Hx_after (isC := [0, 1, 2, 3, 4, 6, 9, 10, 11, 12, 13, 14, 15, 16, 17, 18, 19, 20, 21, 22, 23, 24]) (isR := [5, 7, 8]) (pm := [3, 4, 5, 6, 7, 0, 8, 1, 2, 9, 10, 11, 12, 13, 14, 15, 16, 17, 18, 19, 20, 21, 22, 23, 24]) (wr := wTP (aT 0) aT_0 yT_0 gT_0 ++ (wX6 ((va_up aT_1 0 (aT 0)) 1) aT_1_1 yT_1_1 gT_1_1)) X ⟨rfl, rfl, by decide, by decide, rfl, by decide⟩ ht hB hk hS
        clear hk hS ht hB
        generalize H1 = H at X ⊢
        generalize locs1 = locs at X ⊢
        refine lv_istore (lv' := [(6, .int q_24.1), (0, .ref hT), (1, .int v1), (2, .int v2), (3, .int v3), (4, .int v4), (5, .int v5), (7, .int v7)]) hx hb dX5_readFormula_54 hl (by decide) rfl (fun ls hl => ?_)
        refine lv_goto (tgt := 80) hx hb dX5_readFormula_56 (by decide) ?_
        exact (k_X5_readFormula_80 l D hT aT yT aT_0 yT_0 aT_1 yT_1 aT_1_1 yT_1_1 hT_15 aT_15 yT_15 n rec IH) C X (lv_sub hl [1, 2, 3, 4, 5, 6, 0, 7] rfl) hF
theorem kL_X5_readFormula (l : Launch) (D : Dx) (hT : Nat) (aT : Nat → Nat) (yT : Nat → ClassId) (aT_0 : Nat → Nat) (yT_0 : Nat → ClassId) (aT_1 : Nat → Nat) (yT_1 : Nat → ClassId) (aT_1_1 : Nat → Nat) (yT_1_1 : Nat → ClassId) (hT_15 : Nat) (aT_15 : Nat → Nat) (yT_15 : Nat → ClassId) (n : Nat) : ∀ k, SH_X5_readFormula l D hT aT yT aT_0 yT_0 aT_1 yT_1 aT_1_1 yT_1_1 hT_15 aT_15 yT_15 (L_X5_readFormula n hT_15 k)
  | 0 => fun _ _ _ h => by cases h
  | k + 1 => k_X5_readFormula_25 l D hT aT yT aT_0 yT_0 aT_1 yT_1 aT_1_1 yT_1_1 hT_15 aT_15 yT_15 n _ (kL_X5_readFormula l D hT aT yT aT_0 yT_0 aT_1 yT_1 aT_1_1 yT_1_1 hT_15 aT_15 yT_15 n k)
set_option maxHeartbeats 4000000 in
set_option maxRecDepth 100000 in
theorem c_X5_readFormula (l : Launch) (D : Dx) (hT : Nat) (aT : Nat → Nat) (yT : Nat → ClassId) (aT_0 : Nat → Nat) (yT_0 : Nat → ClassId) (aT_1 : Nat → Nat) (yT_1 : Nat → ClassId) (aT_1_1 : Nat → Nat) (yT_1_1 : Nat → ClassId) (hT_15 : Nat) (aT_15 : Nat → Nat) (yT_15 : Nat → ClassId) (n : Nat) (gT : Gs) (gT_0 : Gs) (gT_1 : Gs) (gT_1_1 : Gs) (gT_15 : Gs) (x0 : Int32) (x1 : Int32) (x2 : Int32) (x3 : Int32) (q : Int32 × Gs × Gs × Gs) (hF : f_X5_readFormula n hT_15 gT gT_0 gT_1 gT_1_1 gT_15 x0 x1 x2 x3 = some q) (sz : Nat) : Met l yX5_readFormula (ws_ yX5_readFormula cX5_readFormula 8 (some .boolean)) R_X5_readFormula (PC D (tX5 yT ++ (tTP yT_0 ++ (tX7 yT_1 ++ (tX6 yT_1_1 ++ (tX0 yT_15))))) [.ref hT, .int x0, .int x1, .int x2, .int x3] (wX5 hT aT yT gT ++ (wTP (aT 0) aT_0 yT_0 gT_0 ++ (wX7 (aT 1) (va_up aT_1 0 (aT 0)) yT_1 gT_1 ++ (wX6 ((va_up aT_1 0 (aT 0)) 1) aT_1_1 yT_1_1 gT_1_1 ++ (wX0 hT_15 aT_15 yT_15 gT_15))))) sz) (QI D (va_A (wX5 hT aT yT gT ++ (wTP (aT 0) aT_0 yT_0 gT_0 ++ (wX7 (aT 1) (va_up aT_1 0 (aT 0)) yT_1 gT_1 ++ (wX6 ((va_up aT_1 0 (aT 0)) 1) aT_1_1 yT_1_1 gT_1_1 ++ (wX0 hT_15 aT_15 yT_15 gT_15))))) sz) (wX5 hT aT yT q.2.1 ++ (wTP (aT 0) aT_0 yT_0 gT_0 ++ (wX7 (aT 1) (va_up aT_1 0 (aT 0)) yT_1 q.2.2.1 ++ (wX6 ((va_up aT_1 0 (aT 0)) 1) aT_1_1 yT_1_1 gT_1_1 ++ (wX0 hT_15 aT_15 yT_15 q.2.2.2))))) q.1) 0 0 (va_A (wX5 hT aT yT gT ++ (wTP (aT 0) aT_0 yT_0 gT_0 ++ (wX7 (aT 1) (va_up aT_1 0 (aT 0)) yT_1 gT_1 ++ (wX6 ((va_up aT_1 0 (aT 0)) 1) aT_1_1 yT_1_1 gT_1_1 ++ (wX0 hT_15 aT_15 yT_15 gT_15))))) sz) := by
  refine Met.ofW (cc := cX5_readFormula) (maxL := 8) (ret := (some .boolean)) (by decide) rfl ?_
  intro p e s m args below meth c s₁ B hml hv
  obtain ⟨rfl, hsz, hP, hK, hD, hN⟩ := hv
  subst hsz
  have C : Cx p s m _ meth c cX5_readFormula (some .boolean) 8 RX5 lw_all := Cx_of B hml
  have X := Hx_start hP hK hD hN
  obtain ⟨hx, hb, hr, -, hown, hts, hlk⟩ := id C
  generalize va_A (wX5 hT aT yT gT ++ (wTP (aT 0) aT_0 yT_0 gT_0 ++ (wX7 (aT 1) (va_up aT_1 0 (aT 0)) yT_1 gT_1 ++ (wX6 ((va_up aT_1 0 (aT 0)) 1) aT_1_1 yT_1_1 gT_1_1 ++ (wX0 hT_15 aT_15 yT_15 gT_15))))) s.heap.size = A at X ⊢
  have hl := lv_entry ([.ref hT, .int x0, .int x1, .int x2, .int x3]) (n := 8) (Nat.le_of_ble_eq_true rfl)
  rw [lg_entry_eq]
  generalize (lg_sl ([.ref hT, .int x0, .int x1, .int x2, .int x3]) ++ List.replicate (8 - (lg_sl ([.ref hT, .int x0, .int x1, .int x2, .int x3])).length) Slot.unset).toArray = ls at hl ⊢
  have hl : lv_has ls 8 [(0, .ref hT), (1, .int x0), (2, .int x1), (3, .int x2), (4, .int x3)] := hl
  unfold f_X5_readFormula at hF
  refine lv_aload_n hx hb dX5_readFormula_0 rfl (lv_at hl 0 rfl) ?_
  obtain ⟨h_1, hF⟩ := grd_some hF
  refine va_get (D := D.1) (ci := 5) (v := .ref hT_15) (C := RX5) (T := TX5) (N := 18) hx hb hts wi_X5 hown X.1 X.2.1 0 rfl rfl 15 (by decide) (hts _ q3_66) (fun _ h9 => h9) ((fl_get (by decide)).trans (rf_eq h_1)) dX5_readFormula_1 ?_
  refine va_getN (D := D.1) (ci := 0) (v := .int (gI gT_15 8)) (C := RX0) (T := TX0) (N := 19) hx hb hts wi_X0 hown X.1 X.2.1 9 rfl rfl 8 (by decide) (X.2.2.2.2.2.1.use q1_238 rfl) (fun _ h9 => h9) (fl_get (by decide)) dX5_readFormula_4 ?_
  refine lv_istore (lv' := [(5, .int (gI gT_15 8)), (0, .ref hT), (1, .int x0), (2, .int x1), (3, .int x2), (4, .int x3)]) hx hb dX5_readFormula_7 hl (by decide) rfl (fun ls hl => ?_)
  refine lv_aload_n hx hb dX5_readFormula_9 rfl (lv_at hl 1 rfl) ?_
  refine lv_iconst (v := (0 : Int32)) hx hb dX5_readFormula_10 (by decide) ?_
  refine va_put (D := D.1) (ci := 5) (v := .int (0 : Int32)) (ty := .int) (C := RX5) (T := TX5) (N := 18) hx hb hts wi_X5 tyX5 tyX5_ok nmX5 hown X.1 X.2.1 X.2.2.1 X.2.2.2.1 0 rfl rfl 8 (by decide) (hts _ q3_59) (fun _ h9 => h9) rfl (by decide +kernel) rfl rfl (by rw [List.length_map, List.length_range]; decide) dX5_readFormula_11 (fun H locs hP hD hS => ?_)
  have X : Hx D (tX5 yT ++ (tTP yT_0 ++ (tX7 yT_1 ++ (tX6 yT_1_1 ++ (tX0 yT_15))))) A s H locs (wX5 hT aT yT (sI gT 8 (0 : Int32)) ++ (wTP (aT 0) aT_0 yT_0 gT_0 ++ (wX7 (aT 1) (va_up aT_1 0 (aT 0)) yT_1 gT_1 ++ (wX6 ((va_up aT_1 0 (aT 0)) 1) aT_1_1 yT_1_1 gT_1_1 ++ (wX0 hT_15 aT_15 yT_15 gT_15))))) := Hx_set X (set_l (by rw [wG_len (m := 5) rfl]; decide) (wG_sI (k := 8) rfl)) hP hD hS
  refine lv_aload_n hx hb dX5_readFormula_14 rfl (lv_at hl 1 rfl) ?_
  refine lv_iconst (v := (0 : Int32)) hx hb dX5_readFormula_15 (by decide) ?_
  refine va_put (D := D.1) (ci := 5) (v := .int (0 : Int32)) (ty := .int) (C := RX5) (T := TX5) (N := 18) hx hb hts wi_X5 tyX5 tyX5_ok nmX5 hown X.1 X.2.1 X.2.2.1 X.2.2.2.1 0 rfl rfl 9 (by decide) (hts _ q3_60) (fun _ h9 => h9) rfl (by decide +kernel) rfl rfl (by rw [List.length_map, List.length_range]; decide) dX5_readFormula_16 (fun H locs hP hD hS => ?_)
  have X : Hx D (tX5 yT ++ (tTP yT_0 ++ (tX7 yT_1 ++ (tX6 yT_1_1 ++ (tX0 yT_15))))) A s H locs (wX5 hT aT yT (sI (sI gT 8 (0 : Int32)) 9 (0 : Int32)) ++ (wTP (aT 0) aT_0 yT_0 gT_0 ++ (wX7 (aT 1) (va_up aT_1 0 (aT 0)) yT_1 gT_1 ++ (wX6 ((va_up aT_1 0 (aT 0)) 1) aT_1_1 yT_1_1 gT_1_1 ++ (wX0 hT_15 aT_15 yT_15 gT_15))))) := Hx_set X (set_l (by rw [wG_len (m := 5) rfl]; decide) (wG_sI (k := 9) rfl)) hP hD hS
  refine lv_iconst (v := (2 : Int32)) hx hb dX5_readFormula_19 (by decide) ?_
  refine lv_istore (lv' := [(6, .int (2 : Int32)), (5, .int (gI gT_15 8)), (0, .ref hT), (1, .int x0), (2, .int x1), (3, .int x2), (4, .int x3)]) hx hb dX5_readFormula_20 hl (by decide) rfl (fun ls hl => ?_)
  refine lv_iconst (v := (0 : Int32)) hx hb dX5_readFormula_22 (by decide) ?_
  refine lv_istore (lv' := [(7, .int (0 : Int32)), (6, .int (2 : Int32)), (5, .int (gI gT_15 8)), (0, .ref hT), (1, .int x0), (2, .int x1), (3, .int x2), (4, .int x3)]) hx hb dX5_readFormula_23 hl (by decide) rfl (fun ls hl => ?_)
  exact (kL_X5_readFormula l D hT aT yT aT_0 yT_0 aT_1 yT_1 aT_1_1 yT_1_1 hT_15 aT_15 yT_15 n n) C X (lv_sub hl [3, 4, 5, 6, 7, 2, 1, 0] rfl) hF

/-! ### X5_readThing -/
theorem dX5_readThing_0 : decode cX5_readThing 0 = .ok (.aload_n 0, 1) := by decide +kernel
theorem dX5_readThing_1 : decode cX5_readThing 1 = .ok (.getfield 77, 3) := by decide +kernel
theorem dX5_readThing_4 : decode cX5_readThing 4 = .ok (.invokevirtual 145, 3) := by decide +kernel
theorem dX5_readThing_7 : decode cX5_readThing 7 = .ok (.aload_n 0, 1) := by decide +kernel
theorem dX5_readThing_8 : decode cX5_readThing 8 = .ok (.getfield 77, 3) := by decide +kernel
theorem dX5_readThing_11 : decode cX5_readThing 11 = .ok (.getfield 100, 3) := by decide +kernel
theorem dX5_readThing_14 : decode cX5_readThing 14 = .ok (.iconst 2, 1) := by decide +kernel
theorem dX5_readThing_15 : decode cX5_readThing 15 = .ok (.if_icmp .eq 5, 3) := by decide +kernel
theorem dX5_readThing_18 : decode cX5_readThing 18 = .ok (.iconst 0, 1) := by decide +kernel
theorem dX5_readThing_19 : decode cX5_readThing 19 = .ok (.ireturn, 1) := by decide +kernel
theorem dX5_readThing_20 : decode cX5_readThing 20 = .ok (.aload_n 0, 1) := by decide +kernel
theorem dX5_readThing_21 : decode cX5_readThing 21 = .ok (.getfield 61, 3) := by decide +kernel
theorem dX5_readThing_24 : decode cX5_readThing 24 = .ok (.getfield 158, 3) := by decide +kernel
theorem dX5_readThing_27 : decode cX5_readThing 27 = .ok (.istore_n 2, 1) := by decide +kernel
theorem dX5_readThing_28 : decode cX5_readThing 28 = .ok (.aload_n 0, 1) := by decide +kernel
theorem dX5_readThing_29 : decode cX5_readThing 29 = .ok (.iconst 0, 1) := by decide +kernel
theorem dX5_readThing_30 : decode cX5_readThing 30 = .ok (.aload_n 0, 1) := by decide +kernel
theorem dX5_readThing_31 : decode cX5_readThing 31 = .ok (.getfield 61, 3) := by decide +kernel
theorem dX5_readThing_34 : decode cX5_readThing 34 = .ok (.getfield 161, 3) := by decide +kernel
theorem dX5_readThing_37 : decode cX5_readThing 37 = .ok (.bipush 40, 2) := by decide +kernel
theorem dX5_readThing_39 : decode cX5_readThing 39 = .ok (.invokevirtual 164, 3) := by decide +kernel
theorem dX5_readThing_42 : decode cX5_readThing 42 = .ok (.istore_n 3, 1) := by decide +kernel
theorem dX5_readThing_43 : decode cX5_readThing 43 = .ok (.aload_n 0, 1) := by decide +kernel
theorem dX5_readThing_44 : decode cX5_readThing 44 = .ok (.bipush 40, 2) := by decide +kernel
theorem dX5_readThing_46 : decode cX5_readThing 46 = .ok (.invokevirtual 168, 3) := by decide +kernel
theorem dX5_readThing_49 : decode cX5_readThing 49 = .ok (.ifCond .eq 27, 3) := by decide +kernel
theorem dX5_readThing_52 : decode cX5_readThing 52 = .ok (.aload_n 0, 1) := by decide +kernel
theorem dX5_readThing_53 : decode cX5_readThing 53 = .ok (.getfield 77, 3) := by decide +kernel
theorem dX5_readThing_56 : decode cX5_readThing 56 = .ok (.getfield 100, 3) := by decide +kernel
theorem dX5_readThing_59 : decode cX5_readThing 59 = .ok (.bipush 28, 2) := by decide +kernel
theorem dX5_readThing_61 : decode cX5_readThing 61 = .ok (.if_icmp .lt 15, 3) := by decide +kernel
theorem dX5_readThing_64 : decode cX5_readThing 64 = .ok (.aload_n 0, 1) := by decide +kernel
theorem dX5_readThing_65 : decode cX5_readThing 65 = .ok (.getfield 77, 3) := by decide +kernel
theorem dX5_readThing_68 : decode cX5_readThing 68 = .ok (.getfield 100, 3) := by decide +kernel
theorem dX5_readThing_71 : decode cX5_readThing 71 = .ok (.bipush 35, 2) := by decide +kernel
theorem dX5_readThing_73 : decode cX5_readThing 73 = .ok (.if_icmp .le 5, 3) := by decide +kernel
theorem dX5_readThing_76 : decode cX5_readThing 76 = .ok (.iconst 0, 1) := by decide +kernel
theorem dX5_readThing_77 : decode cX5_readThing 77 = .ok (.ireturn, 1) := by decide +kernel
theorem dX5_readThing_78 : decode cX5_readThing 78 = .ok (.aload_n 0, 1) := by decide +kernel
theorem dX5_readThing_79 : decode cX5_readThing 79 = .ok (.getfield 77, 3) := by decide +kernel
theorem dX5_readThing_82 : decode cX5_readThing 82 = .ok (.getfield 100, 3) := by decide +kernel
theorem dX5_readThing_85 : decode cX5_readThing 85 = .ok (.bipush 28, 2) := by decide +kernel
theorem dX5_readThing_87 : decode cX5_readThing 87 = .ok (.isub, 1) := by decide +kernel
theorem dX5_readThing_88 : decode cX5_readThing 88 = .ok (.istore 4, 2) := by decide +kernel
theorem dX5_readThing_90 : decode cX5_readThing 90 = .ok (.aload_n 0, 1) := by decide +kernel
theorem dX5_readThing_91 : decode cX5_readThing 91 = .ok (.getfield 77, 3) := by decide +kernel
theorem dX5_readThing_94 : decode cX5_readThing 94 = .ok (.invokevirtual 145, 3) := by decide +kernel
theorem dX5_readThing_97 : decode cX5_readThing 97 = .ok (.aload_n 0, 1) := by decide +kernel
theorem dX5_readThing_98 : decode cX5_readThing 98 = .ok (.getfield 77, 3) := by decide +kernel
theorem dX5_readThing_101 : decode cX5_readThing 101 = .ok (.getfield 114, 3) := by decide +kernel
theorem dX5_readThing_104 : decode cX5_readThing 104 = .ok (.istore 5, 2) := by decide +kernel
theorem dX5_readThing_106 : decode cX5_readThing 106 = .ok (.aload_n 0, 1) := by decide +kernel
theorem dX5_readThing_107 : decode cX5_readThing 107 = .ok (.getfield 71, 3) := by decide +kernel
theorem dX5_readThing_110 : decode cX5_readThing 110 = .ok (.getfield 172, 3) := by decide +kernel
theorem dX5_readThing_113 : decode cX5_readThing 113 = .ok (.istore 6, 2) := by decide +kernel
theorem dX5_readThing_115 : decode cX5_readThing 115 = .ok (.aload_n 0, 1) := by decide +kernel
theorem dX5_readThing_116 : decode cX5_readThing 116 = .ok (.bipush 43, 2) := by decide +kernel
theorem dX5_readThing_118 : decode cX5_readThing 118 = .ok (.invokevirtual 168, 3) := by decide +kernel
theorem dX5_readThing_121 : decode cX5_readThing 121 = .ok (.ifCond .eq 15, 3) := by decide +kernel
theorem dX5_readThing_124 : decode cX5_readThing 124 = .ok (.aload_n 0, 1) := by decide +kernel
theorem dX5_readThing_125 : decode cX5_readThing 125 = .ok (.iload_n 3, 1) := by decide +kernel
theorem dX5_readThing_126 : decode cX5_readThing 126 = .ok (.iload 5, 2) := by decide +kernel
theorem dX5_readThing_128 : decode cX5_readThing 128 = .ok (.iload_n 3, 1) := by decide +kernel
theorem dX5_readThing_129 : decode cX5_readThing 129 = .ok (.iload_n 2, 1) := by decide +kernel
theorem dX5_readThing_130 : decode cX5_readThing 130 = .ok (.invokevirtual 132, 3) := by decide +kernel
theorem dX5_readThing_133 : decode cX5_readThing 133 = .ok (.ifCond .ne 5, 3) := by decide +kernel
theorem dX5_readThing_136 : decode cX5_readThing 136 = .ok (.iconst 0, 1) := by decide +kernel
theorem dX5_readThing_137 : decode cX5_readThing 137 = .ok (.ireturn, 1) := by decide +kernel
theorem dX5_readThing_138 : decode cX5_readThing 138 = .ok (.iload 6, 2) := by decide +kernel
theorem dX5_readThing_140 : decode cX5_readThing 140 = .ok (.istore 7, 2) := by decide +kernel
theorem dX5_readThing_142 : decode cX5_readThing 142 = .ok (.iload_n 1, 1) := by decide +kernel
theorem dX5_readThing_143 : decode cX5_readThing 143 = .ok (.ifCond .eq 46, 3) := by decide +kernel
theorem dX5_readThing_146 : decode cX5_readThing 146 = .ok (.aload_n 0, 1) := by decide +kernel
theorem dX5_readThing_147 : decode cX5_readThing 147 = .ok (.getfield 77, 3) := by decide +kernel
theorem dX5_readThing_150 : decode cX5_readThing 150 = .ok (.getfield 114, 3) := by decide +kernel
theorem dX5_readThing_153 : decode cX5_readThing 153 = .ok (.istore 5, 2) := by decide +kernel
theorem dX5_readThing_155 : decode cX5_readThing 155 = .ok (.aload_n 0, 1) := by decide +kernel
theorem dX5_readThing_156 : decode cX5_readThing 156 = .ok (.getfield 71, 3) := by decide +kernel
theorem dX5_readThing_159 : decode cX5_readThing 159 = .ok (.getfield 172, 3) := by decide +kernel
theorem dX5_readThing_162 : decode cX5_readThing 162 = .ok (.istore 7, 2) := by decide +kernel
theorem dX5_readThing_164 : decode cX5_readThing 164 = .ok (.aload_n 0, 1) := by decide +kernel
theorem dX5_readThing_165 : decode cX5_readThing 165 = .ok (.bipush 14, 2) := by decide +kernel
theorem dX5_readThing_167 : decode cX5_readThing 167 = .ok (.invokevirtual 168, 3) := by decide +kernel
theorem dX5_readThing_170 : decode cX5_readThing 170 = .ok (.ifCond .eq 17, 3) := by decide +kernel
theorem dX5_readThing_173 : decode cX5_readThing 173 = .ok (.aload_n 0, 1) := by decide +kernel
theorem dX5_readThing_174 : decode cX5_readThing 174 = .ok (.iload_n 3, 1) := by decide +kernel
theorem dX5_readThing_175 : decode cX5_readThing 175 = .ok (.iload 5, 2) := by decide +kernel
theorem dX5_readThing_177 : decode cX5_readThing 177 = .ok (.bipush 40, 2) := by decide +kernel
theorem dX5_readThing_179 : decode cX5_readThing 179 = .ok (.bipush 8, 2) := by decide +kernel
theorem dX5_readThing_181 : decode cX5_readThing 181 = .ok (.invokevirtual 132, 3) := by decide +kernel
theorem dX5_readThing_184 : decode cX5_readThing 184 = .ok (.ifCond .ne 5, 3) := by decide +kernel
theorem dX5_readThing_187 : decode cX5_readThing 187 = .ok (.iconst 0, 1) := by decide +kernel
theorem dX5_readThing_188 : decode cX5_readThing 188 = .ok (.ireturn, 1) := by decide +kernel
theorem dX5_readThing_189 : decode cX5_readThing 189 = .ok (.iload_n 3, 1) := by decide +kernel
theorem dX5_readThing_190 : decode cX5_readThing 190 = .ok (.iconst (-1), 1) := by decide +kernel
theorem dX5_readThing_191 : decode cX5_readThing 191 = .ok (.if_icmp .eq 83, 3) := by decide +kernel
theorem dX5_readThing_194 : decode cX5_readThing 194 = .ok (.aload_n 0, 1) := by decide +kernel
theorem dX5_readThing_195 : decode cX5_readThing 195 = .ok (.getfield 61, 3) := by decide +kernel
theorem dX5_readThing_198 : decode cX5_readThing 198 = .ok (.getfield 175, 3) := by decide +kernel
theorem dX5_readThing_201 : decode cX5_readThing 201 = .ok (.aload_n 0, 1) := by decide +kernel
theorem dX5_readThing_202 : decode cX5_readThing 202 = .ok (.getfield 61, 3) := by decide +kernel
theorem dX5_readThing_205 : decode cX5_readThing 205 = .ok (.getfield 161, 3) := by decide +kernel
theorem dX5_readThing_208 : decode cX5_readThing 208 = .ok (.aload_n 0, 1) := by decide +kernel
theorem dX5_readThing_209 : decode cX5_readThing 209 = .ok (.getfield 61, 3) := by decide +kernel
theorem dX5_readThing_212 : decode cX5_readThing 212 = .ok (.getfield 178, 3) := by decide +kernel
theorem dX5_readThing_215 : decode cX5_readThing 215 = .ok (.iadd, 1) := by decide +kernel
theorem dX5_readThing_216 : decode cX5_readThing 216 = .ok (.iload_n 3, 1) := by decide +kernel
theorem dX5_readThing_217 : decode cX5_readThing 217 = .ok (.iastore, 1) := by decide +kernel
theorem dX5_readThing_218 : decode cX5_readThing 218 = .ok (.aload_n 0, 1) := by decide +kernel
theorem dX5_readThing_219 : decode cX5_readThing 219 = .ok (.getfield 61, 3) := by decide +kernel
theorem dX5_readThing_222 : decode cX5_readThing 222 = .ok (.getfield 181, 3) := by decide +kernel
theorem dX5_readThing_225 : decode cX5_readThing 225 = .ok (.iload_n 3, 1) := by decide +kernel
theorem dX5_readThing_226 : decode cX5_readThing 226 = .ok (.iload 4, 2) := by decide +kernel
theorem dX5_readThing_228 : decode cX5_readThing 228 = .ok (.iastore, 1) := by decide +kernel
theorem dX5_readThing_229 : decode cX5_readThing 229 = .ok (.aload_n 0, 1) := by decide +kernel
theorem dX5_readThing_230 : decode cX5_readThing 230 = .ok (.getfield 61, 3) := by decide +kernel
theorem dX5_readThing_233 : decode cX5_readThing 233 = .ok (.getfield 184, 3) := by decide +kernel
theorem dX5_readThing_236 : decode cX5_readThing 236 = .ok (.iload_n 3, 1) := by decide +kernel
theorem dX5_readThing_237 : decode cX5_readThing 237 = .ok (.iload_n 1, 1) := by decide +kernel
theorem dX5_readThing_238 : decode cX5_readThing 238 = .ok (.bastore, 1) := by decide +kernel
theorem dX5_readThing_239 : decode cX5_readThing 239 = .ok (.aload_n 0, 1) := by decide +kernel
theorem dX5_readThing_240 : decode cX5_readThing 240 = .ok (.getfield 61, 3) := by decide +kernel
theorem dX5_readThing_243 : decode cX5_readThing 243 = .ok (.getfield 188, 3) := by decide +kernel
theorem dX5_readThing_246 : decode cX5_readThing 246 = .ok (.iload_n 3, 1) := by decide +kernel
theorem dX5_readThing_247 : decode cX5_readThing 247 = .ok (.iload 6, 2) := by decide +kernel
theorem dX5_readThing_249 : decode cX5_readThing 249 = .ok (.iastore, 1) := by decide +kernel
theorem dX5_readThing_250 : decode cX5_readThing 250 = .ok (.aload_n 0, 1) := by decide +kernel
theorem dX5_readThing_251 : decode cX5_readThing 251 = .ok (.getfield 61, 3) := by decide +kernel
theorem dX5_readThing_254 : decode cX5_readThing 254 = .ok (.getfield 191, 3) := by decide +kernel
theorem dX5_readThing_257 : decode cX5_readThing 257 = .ok (.iload_n 3, 1) := by decide +kernel
theorem dX5_readThing_258 : decode cX5_readThing 258 = .ok (.iload 7, 2) := by decide +kernel
theorem dX5_readThing_260 : decode cX5_readThing 260 = .ok (.iastore, 1) := by decide +kernel
theorem dX5_readThing_261 : decode cX5_readThing 261 = .ok (.aload_n 0, 1) := by decide +kernel
theorem dX5_readThing_262 : decode cX5_readThing 262 = .ok (.getfield 61, 3) := by decide +kernel
theorem dX5_readThing_265 : decode cX5_readThing 265 = .ok (.dup, 1) := by decide +kernel
theorem dX5_readThing_266 : decode cX5_readThing 266 = .ok (.getfield 161, 3) := by decide +kernel
theorem dX5_readThing_269 : decode cX5_readThing 269 = .ok (.iconst 1, 1) := by decide +kernel
theorem dX5_readThing_270 : decode cX5_readThing 270 = .ok (.iadd, 1) := by decide +kernel
theorem dX5_readThing_271 : decode cX5_readThing 271 = .ok (.putfield 161, 3) := by decide +kernel
theorem dX5_readThing_274 : decode cX5_readThing 274 = .ok (.aload_n 0, 1) := by decide +kernel
theorem dX5_readThing_275 : decode cX5_readThing 275 = .ok (.bipush 41, 2) := by decide +kernel
theorem dX5_readThing_277 : decode cX5_readThing 277 = .ok (.invokevirtual 168, 3) := by decide +kernel
theorem dX5_readThing_280 : decode cX5_readThing 280 = .ok (.ireturn, 1) := by decide +kernel
abbrev R_X5_readThing : Room := ({ frames := 8, cells := 0, slots := 0, locals := 202 } : Room)
def b_X5_readThing_274 (n : Nat) (hT_14 : Nat) (hT_15 : Nat) (gT : Gs) (gT_0 : Gs) (gT_1 : Gs) (gT_1_1 : Gs) (gT_14 : Gs) (gT_15 : Gs) : Option (Int32 × Gs × Gs × Gs × Gs) :=
  bnd (f_X5_expect n gT gT_0 gT_1 gT_1_1 (41 : Int32)) (fun q_16 => grd (zB q_16.1) (some (q_16.1, gT, q_16.2, gT_14, gT_15)))
def b_X5_readThing_189 (n : Nat) (hT_14 : Nat) (hT_15 : Nat) (gT : Gs) (gT_0 : Gs) (gT_1 : Gs) (gT_1_1 : Gs) (gT_14 : Gs) (gT_15 : Gs) (v1 : Int32) (v3 : Int32) (v4 : Int32) (v6 : Int32) (v7 : Int32) : Option (Int32 × Gs × Gs × Gs × Gs) :=
  if v3 = (-1 : Int32) then (b_X5_readThing_274 n hT_14 hT_15 gT gT_0 gT_1 gT_1_1 gT_14 gT_15) else (grd (rEq (gR gT 14) hT_14) (grd (rEq (gR gT 14) hT_14) (grd (rEq (gR gT 14) hT_14) (grd (inB ((gI gT_14 4) + (gI gT_14 5)) 52) (grd (rEq (gR gT 14) hT_14) (grd (inB v3 40) (grd (rEq (gR gT 14) hT_14) (grd (inB v3 40) (grd (rEq (gR gT 14) hT_14) (grd (inB v3 40) (grd (rEq (gR gT 14) hT_14) (grd (inB v3 52) (grd (rEq (gR gT 14) hT_14) (b_X5_readThing_274 n hT_14 hT_15 gT gT_0 gT_1 gT_1_1 (sI (sIA (sIA (sIA (sIA (sIA gT_14 11 (upd (gIA gT_14 11) ((gI gT_14 4) + (gI gT_14 5)).toNatClampNeg v3)) 7 (upd (gIA gT_14 7) v3.toNatClampNeg v4)) 8 (upd (gIA gT_14 8) v3.toNatClampNeg (vp_nar .boolean v1))) 9 (upd (gIA gT_14 9) v3.toNatClampNeg v6)) 10 (upd (gIA gT_14 10) v3.toNatClampNeg v7)) 4 ((gI gT_14 4) + (1 : Int32))) gT_15))))))))))))))
def f_X5_readThing (n : Nat) (hT_14 : Nat) (hT_15 : Nat) (gT : Gs) (gT_0 : Gs) (gT_1 : Gs) (gT_1_1 : Gs) (gT_14 : Gs) (gT_15 : Gs) (x0 : Int32) : Option (Int32 × Gs × Gs × Gs × Gs) :=
  bnd (f_X7_advance n gT_1 gT_0 gT_1_1) (fun q_1 => if (gI q_1 4) = (2 : Int32) then (grd (rEq (gR gT 14) hT_14) (grd (rEq (gR gT 14) hT_14) (bnd (f_X5_tell n hT_14 hT_15 gT gT_0 q_1 gT_1_1 gT_14 gT_15 (0 : Int32) (gI gT_14 4) (40 : Int32)) (fun q_5 => bnd (f_X5_expect n q_5.2.1 gT_0 q_5.2.2.1 gT_1_1 (40 : Int32)) (fun q_7 => if q_7.1 = 0 then (some ((0 : Int32), q_5.2.1, q_7.2, q_5.2.2.2.1, q_5.2.2.2.2)) else (if (gI q_7.2 4) < (28 : Int32) then (some ((0 : Int32), q_5.2.1, q_7.2, q_5.2.2.2.1, q_5.2.2.2.2)) else (if (gI q_7.2 4) ≤ (35 : Int32) then (bnd (f_X7_advance n q_7.2 gT_0 gT_1_1) (fun q_9 => grd (rEq (gR q_5.2.1 15) hT_15) (bnd (f_X5_expect n q_5.2.1 gT_0 q_9 gT_1_1 (43 : Int32)) (fun q_12 => if q_12.1 = 0 then (some ((0 : Int32), q_5.2.1, q_12.2, q_5.2.2.2.1, q_5.2.2.2.2)) else (bnd (f_X5_readFormula n hT_15 q_5.2.1 gT_0 q_12.2 gT_1_1 q_5.2.2.2.2 q_5.1 (gI q_9 5) q_5.1 (gI gT_14 6)) (fun q_14 => if q_14.1 = 0 then (some ((0 : Int32), q_14.2.1, q_14.2.2.1, q_5.2.2.2.1, q_14.2.2.2)) else (if x0 = 0 then (b_X5_readThing_189 n hT_14 hT_15 q_14.2.1 gT_0 q_14.2.2.1 gT_1_1 q_5.2.2.2.1 q_14.2.2.2 x0 q_5.1 ((gI q_7.2 4) - (28 : Int32)) (gI q_5.2.2.2.2 18) (gI q_5.2.2.2.2 18)) else (grd (rEq (gR q_14.2.1 15) hT_15) (bnd (f_X5_expect n q_14.2.1 gT_0 q_14.2.2.1 gT_1_1 (14 : Int32)) (fun q_33 => if q_33.1 = 0 then (some ((0 : Int32), q_14.2.1, q_33.2, q_5.2.2.2.1, q_14.2.2.2)) else (bnd (f_X5_readFormula n hT_15 q_14.2.1 gT_0 q_33.2 gT_1_1 q_14.2.2.2 q_5.1 (gI q_14.2.2.1 5) (40 : Int32) (8 : Int32)) (fun q_35 => if q_35.1 = 0 then (some ((0 : Int32), q_35.2.1, q_35.2.2.1, q_5.2.2.2.1, q_35.2.2.2)) else (b_X5_readThing_189 n hT_14 hT_15 q_35.2.1 gT_0 q_35.2.2.1 gT_1_1 q_5.2.2.2.1 q_35.2.2.2 x0 q_5.1 ((gI q_7.2 4) - (28 : Int32)) (gI q_5.2.2.2.2 18) (gI q_14.2.2.2 18)))))))))))))) else (some ((0 : Int32), q_5.2.1, q_7.2, q_5.2.2.2.1, q_5.2.2.2.2))))))))) else (some ((0 : Int32), gT, q_1, gT_14, gT_15)))
def S_X5_readThing_274 (l : Launch) (D : Dx) (hT : Nat) (aT : Nat → Nat) (yT : Nat → ClassId) (aT_0 : Nat → Nat) (yT_0 : Nat → ClassId) (aT_1 : Nat → Nat) (yT_1 : Nat → ClassId) (aT_1_1 : Nat → Nat) (yT_1_1 : Nat → ClassId) (hT_14 : Nat) (aT_14 : Nat → Nat) (yT_14 : Nat → ClassId) (hT_15 : Nat) (aT_15 : Nat → Nat) (yT_15 : Nat → ClassId) (fn : Gs → Gs → Gs → Gs → Gs → Gs → Option (Int32 × Gs × Gs × Gs × Gs)) : Prop :=
  ∀ {p : Program} {e : Env} {s : State} {m : MethodId} {args : Array Value} {below : List Frame} {meth : Method} {c : Code} {H : Heap} {locs : List Loc} {A : Nat → Prop} {ls : Array Slot} {gT : Gs} {gT_0 : Gs} {gT_1 : Gs} {gT_1_1 : Gs} {gT_14 : Gs} {gT_15 : Gs} {q : Int32 × Gs × Gs × Gs × Gs}, Cx p s m args meth c cX5_readThing (some .boolean) 8 RX5 lw_all → Hx D (tX5 yT ++ (tTP yT_0 ++ (tX7 yT_1 ++ (tX6 yT_1_1 ++ (tX4 yT_14 ++ (tX0 yT_15)))))) A s H locs (wX5 hT aT yT gT ++ (wTP (aT 0) aT_0 yT_0 gT_0 ++ (wX7 (aT 1) (va_up aT_1 0 (aT 0)) yT_1 gT_1 ++ (wX6 ((va_up aT_1 0 (aT 0)) 1) aT_1_1 yT_1_1 gT_1_1 ++ (wX4 hT_14 aT_14 yT_14 gT_14 ++ (wX0 hT_15 aT_15 yT_15 gT_15)))))) → lv_has ls 8 [(0, .ref hT)] → fn gT gT_0 gT_1 gT_1_1 gT_14 gT_15 = some q → W p l e R_X5_readThing s m args below meth c H locs 0 0 (MQ below (QI D A (wX5 hT aT yT q.2.1 ++ (wTP (aT 0) aT_0 yT_0 gT_0 ++ (wX7 (aT 1) (va_up aT_1 0 (aT 0)) yT_1 q.2.2.1 ++ (wX6 ((va_up aT_1 0 (aT 0)) 1) aT_1_1 yT_1_1 gT_1_1 ++ (wX4 hT_14 aT_14 yT_14 q.2.2.2.1 ++ (wX0 hT_15 aT_15 yT_15 q.2.2.2.2)))))) q.1) args s 0 0 A) (F0 m 274 ls [])
def S_X5_readThing_189 (l : Launch) (D : Dx) (hT : Nat) (aT : Nat → Nat) (yT : Nat → ClassId) (aT_0 : Nat → Nat) (yT_0 : Nat → ClassId) (aT_1 : Nat → Nat) (yT_1 : Nat → ClassId) (aT_1_1 : Nat → Nat) (yT_1_1 : Nat → ClassId) (hT_14 : Nat) (aT_14 : Nat → Nat) (yT_14 : Nat → ClassId) (hT_15 : Nat) (aT_15 : Nat → Nat) (yT_15 : Nat → ClassId) (fn : Gs → Gs → Gs → Gs → Gs → Gs → Int32 → Int32 → Int32 → Int32 → Int32 → Option (Int32 × Gs × Gs × Gs × Gs)) : Prop :=
  ∀ {p : Program} {e : Env} {s : State} {m : MethodId} {args : Array Value} {below : List Frame} {meth : Method} {c : Code} {H : Heap} {locs : List Loc} {A : Nat → Prop} {ls : Array Slot} {gT : Gs} {gT_0 : Gs} {gT_1 : Gs} {gT_1_1 : Gs} {gT_14 : Gs} {gT_15 : Gs} {v1 : Int32} {v3 : Int32} {v4 : Int32} {v6 : Int32} {v7 : Int32} {q : Int32 × Gs × Gs × Gs × Gs}, Cx p s m args meth c cX5_readThing (some .boolean) 8 RX5 lw_all → Hx D (tX5 yT ++ (tTP yT_0 ++ (tX7 yT_1 ++ (tX6 yT_1_1 ++ (tX4 yT_14 ++ (tX0 yT_15)))))) A s H locs (wX5 hT aT yT gT ++ (wTP (aT 0) aT_0 yT_0 gT_0 ++ (wX7 (aT 1) (va_up aT_1 0 (aT 0)) yT_1 gT_1 ++ (wX6 ((va_up aT_1 0 (aT 0)) 1) aT_1_1 yT_1_1 gT_1_1 ++ (wX4 hT_14 aT_14 yT_14 gT_14 ++ (wX0 hT_15 aT_15 yT_15 gT_15)))))) → lv_has ls 8 [(0, .ref hT), (1, .int v1), (3, .int v3), (4, .int v4), (6, .int v6), (7, .int v7)] → fn gT gT_0 gT_1 gT_1_1 gT_14 gT_15 v1 v3 v4 v6 v7 = some q → W p l e R_X5_readThing s m args below meth c H locs 0 0 (MQ below (QI D A (wX5 hT aT yT q.2.1 ++ (wTP (aT 0) aT_0 yT_0 gT_0 ++ (wX7 (aT 1) (va_up aT_1 0 (aT 0)) yT_1 q.2.2.1 ++ (wX6 ((va_up aT_1 0 (aT 0)) 1) aT_1_1 yT_1_1 gT_1_1 ++ (wX4 hT_14 aT_14 yT_14 q.2.2.2.1 ++ (wX0 hT_15 aT_15 yT_15 q.2.2.2.2)))))) q.1) args s 0 0 A) (F0 m 189 ls [])
set_option maxHeartbeats 4000000 in
set_option maxRecDepth 100000 in
theorem k_X5_readThing_274 (l : Launch) (D : Dx) (hT : Nat) (aT : Nat → Nat) (yT : Nat → ClassId) (aT_0 : Nat → Nat) (yT_0 : Nat → ClassId) (aT_1 : Nat → Nat) (yT_1 : Nat → ClassId) (aT_1_1 : Nat → Nat) (yT_1_1 : Nat → ClassId) (hT_14 : Nat) (aT_14 : Nat → Nat) (yT_14 : Nat → ClassId) (hT_15 : Nat) (aT_15 : Nat → Nat) (yT_15 : Nat → ClassId) (n : Nat) : S_X5_readThing_274 l D hT aT yT aT_0 yT_0 aT_1 yT_1 aT_1_1 yT_1_1 hT_14 aT_14 yT_14 hT_15 aT_15 yT_15 (b_X5_readThing_274 n hT_14 hT_15) := by
  intro p e s m args below meth c H locs A ls gT gT_0 gT_1 gT_1_1 gT_14 gT_15 q C X hl hF
  obtain ⟨hx, hb, hr, hml, hown, hts, hlk⟩ := id C
  unfold b_X5_readThing_274 at hF
  refine lv_aload_n hx hb dX5_readThing_274 rfl (lv_at hl 0 rfl) ?_
  refine lv_bipush (v := (41 : Int32)) hx hb dX5_readThing_275 (by decide) ?_
  obtain ⟨q_16, hc_17, hF⟩ := bnd_some hF
  refine cV_i (As := [.int (41 : Int32)]) (rest := []) C X (c_X5_expect l D hT aT yT aT_0 yT_0 (va_up aT_1 0 (aT 0)) yT_1 aT_1_1 yT_1_1 n gT gT_0 gT_1 gT_1_1 (41 : Int32) q_16 hc_17 _) (cwV 1 hts (good_V q4_78 q4_80 q0_14 q1_10 q4_81) rfl rfl rfl (by decide +kernel) ⟨Nat.le_of_ble_eq_true rfl, Nat.le_of_ble_eq_true rfl⟩) (va_recv X.1 X.2.1 (ci := 5) (q0 := 0) rfl rfl) (X.1.sub (tys' := tX5 yT ++ (tTP yT_0 ++ (tX7 yT_1 ++ (tX6 yT_1_1)))) [0, 1, 2, 3, 4, 5] rfl) (X.2.1.sub (ws' := wX5 hT aT yT gT ++ (wTP (aT 0) aT_0 yT_0 gT_0 ++ (wX7 (aT 1) (va_up aT_1 0 (aT 0)) yT_1 gT_1 ++ (wX6 ((va_up aT_1 0 (aT 0)) 1) aT_1_1 yT_1_1 gT_1_1)))) [0, 1, 2, 3, 4, 5, 6, 7, 8] rfl) (X.2.2.1.sub (ws' := wX5 hT aT yT gT ++ (wTP (aT 0) aT_0 yT_0 gT_0 ++ (wX7 (aT 1) (va_up aT_1 0 (aT 0)) yT_1 gT_1 ++ (wX6 ((va_up aT_1 0 (aT 0)) 1) aT_1_1 yT_1_1 gT_1_1)))) [0, 1, 2, 3, 4, 5, 6, 7, 8] (by decide) rfl) (free_of (wC := wX5 hT aT yT gT ++ (wTP (aT 0) aT_0 yT_0 gT_0 ++ (wX7 (aT 1) (va_up aT_1 0 (aT 0)) yT_1 gT_1 ++ (wX6 ((va_up aT_1 0 (aT 0)) 1) aT_1_1 yT_1_1 gT_1_1)))) (isC := [0, 1, 2, 3, 4, 5, 6, 7, 8]) X rfl) hl.1 rfl rfl (Nat.le_of_ble_eq_true rfl) dX5_readThing_277 ⟨Nat.le_of_ble_eq_true rfl, Nat.le_of_ble_eq_true rfl⟩ (fun t H1 locs1 ht hB hk hS => ?_)
  have X : Hx D (tX5 yT ++ (tTP yT_0 ++ (tX7 yT_1 ++ (tX6 yT_1_1 ++ (tX4 yT_14 ++ (tX0 yT_15)))))) A s H1 locs1 (wX5 hT aT yT gT ++ (wTP (aT 0) aT_0 yT_0 gT_0 ++ (wX7 (aT 1) (va_up aT_1 0 (aT 0)) yT_1 q_16.2 ++ (wX6 ((va_up aT_1 0 (aT 0)) 1) aT_1_1 yT_1_1 gT_1_1 ++ (wX4 hT_14 aT_14 yT_14 gT_14 ++ (wX0 hT_15 aT_15 yT_15 gT_15)))))) := Hx_after (isC := [0, 1, 2, 3, 4, 5, 6, 7, 8]) (isR := [9, 10, 11, 12, 13, 14, 15, 16, 17, 18, 19, 20, 21, 22, 23, 24, 25, 26, 27, 28, 29, 30, 31, 32, 33, 34, 35]) (pm := [27, 28, 29, 30, 31, 32, 33, 34, 35, 0, 1, 2, 3, 4, 5, 6, 7, 8, 9, 10, 11, 12, 13, 14, 15, 16, 17, 18, 19, 20, 21, 22, 23, 24, 25, 26]) (wr := wX4 hT_14 aT_14 yT_14 gT_14 ++ (wX0 hT_15 aT_15 yT_15 gT_15)) X ⟨rfl, rfl, by decide, by decide, rfl, by decide⟩ ht hB hk hS
  clear hk hS ht hB
  generalize H1 = H at X ⊢
  generalize locs1 = locs at X ⊢
  obtain ⟨h_18, hF⟩ := grd_some hF
  have hq := Option.some.inj hF
  subst hq
  exact rt_z (v := q_16.1) C X (zB_n h_18) dX5_readThing_280
set_option maxHeartbeats 4000000 in
set_option maxRecDepth 100000 in
theorem k_X5_readThing_189 (l : Launch) (D : Dx) (hT : Nat) (aT : Nat → Nat) (yT : Nat → ClassId) (aT_0 : Nat → Nat) (yT_0 : Nat → ClassId) (aT_1 : Nat → Nat) (yT_1 : Nat → ClassId) (aT_1_1 : Nat → Nat) (yT_1_1 : Nat → ClassId) (hT_14 : Nat) (aT_14 : Nat → Nat) (yT_14 : Nat → ClassId) (hT_15 : Nat) (aT_15 : Nat → Nat) (yT_15 : Nat → ClassId) (n : Nat) : S_X5_readThing_189 l D hT aT yT aT_0 yT_0 aT_1 yT_1 aT_1_1 yT_1_1 hT_14 aT_14 yT_14 hT_15 aT_15 yT_15 (b_X5_readThing_189 n hT_14 hT_15) := by
  intro p e s m args below meth c H locs A ls gT gT_0 gT_1 gT_1_1 gT_14 gT_15 v1 v3 v4 v6 v7 q C X hl hF
  obtain ⟨hx, hb, hr, hml, hown, hts, hlk⟩ := id C
  unfold b_X5_readThing_189 at hF
  refine lv_iload_n hx hb dX5_readThing_189 rfl (lv_at hl 2 rfl) ?_
  refine lv_iconst (v := (-1 : Int32)) hx hb dX5_readThing_190 (by decide) ?_
  refine lv_icmp_eq (tgt := 274) hx hb dX5_readThing_191 (by decide) (fun c => ?_) (fun c => ?_)
  · replace hF := iT c hF
    exact (k_X5_readThing_274 l D hT aT yT aT_0 yT_0 aT_1 yT_1 aT_1_1 yT_1_1 hT_14 aT_14 yT_14 hT_15 aT_15 yT_15 n) C X (lv_sub hl [0] rfl) hF
  · replace hF := iF c hF
    refine lv_aload_n hx hb dX5_readThing_194 rfl (lv_at hl 0 rfl) ?_
    obtain ⟨h_19, hF⟩ := grd_some hF
    refine va_get (D := D.1) (ci := 5) (v := .ref hT_14) (C := RX5) (T := TX5) (N := 18) hx hb hts wi_X5 hown X.1 X.2.1 0 rfl rfl 14 (by decide) (hts _ q3_65) (fun _ h9 => h9) ((fl_get (by decide)).trans (rf_eq h_19)) dX5_readThing_195 ?_
    refine va_getN (D := D.1) (ci := 4) (v := .ref (aT_14 11)) (C := RX4) (T := TX4) (N := 14) hx hb hts wi_X4 hown X.1 X.2.1 9 rfl rfl 11 (by decide) (X.2.2.2.2.2.1.use q2_110 rfl) (fun _ h9 => h9) (fl_get (by decide)) dX5_readThing_198 ?_
    refine lv_aload_n hx hb dX5_readThing_201 rfl (lv_at hl 0 rfl) ?_
    obtain ⟨h_20, hF⟩ := grd_some hF
    refine va_get (D := D.1) (ci := 5) (v := .ref hT_14) (C := RX5) (T := TX5) (N := 18) hx hb hts wi_X5 hown X.1 X.2.1 0 rfl rfl 14 (by decide) (hts _ q3_65) (fun _ h9 => h9) ((fl_get (by decide)).trans (rf_eq h_20)) dX5_readThing_202 ?_
    refine va_getN (D := D.1) (ci := 4) (v := .int (gI gT_14 4)) (C := RX4) (T := TX4) (N := 14) hx hb hts wi_X4 hown X.1 X.2.1 9 rfl rfl 4 (by decide) (X.2.2.2.2.2.1.use q2_83 rfl) (fun _ h9 => h9) (fl_get (by decide)) dX5_readThing_205 ?_
    refine lv_aload_n hx hb dX5_readThing_208 rfl (lv_at hl 0 rfl) ?_
    obtain ⟨h_21, hF⟩ := grd_some hF
    refine va_get (D := D.1) (ci := 5) (v := .ref hT_14) (C := RX5) (T := TX5) (N := 18) hx hb hts wi_X5 hown X.1 X.2.1 0 rfl rfl 14 (by decide) (hts _ q3_65) (fun _ h9 => h9) ((fl_get (by decide)).trans (rf_eq h_21)) dX5_readThing_209 ?_
    refine va_getN (D := D.1) (ci := 4) (v := .int (gI gT_14 5)) (C := RX4) (T := TX4) (N := 14) hx hb hts wi_X4 hown X.1 X.2.1 9 rfl rfl 5 (by decide) (X.2.2.2.2.2.1.use q2_88 rfl) (fun _ h9 => h9) (fl_get (by decide)) dX5_readThing_212 ?_
    refine lv_iadd hx hb dX5_readThing_215 ?_
    refine lv_iload_n hx hb dX5_readThing_216 rfl (lv_at hl 2 rfl) ?_
    obtain ⟨h_22, hF⟩ := grd_some hF
    refine va_iast (D := D.1) (f := gIA gT_14 11) hx hb X.1 X.2.1 X.2.2.1 X.2.2.2.1 17 13 rfl rfl (inB_ok h_22) dX5_readThing_217 (fun H locs hP hD hS => ?_)
    have X : Hx D (tX5 yT ++ (tTP yT_0 ++ (tX7 yT_1 ++ (tX6 yT_1_1 ++ (tX4 yT_14 ++ (tX0 yT_15)))))) A s H locs (wX5 hT aT yT gT ++ (wTP (aT 0) aT_0 yT_0 gT_0 ++ (wX7 (aT 1) (va_up aT_1 0 (aT 0)) yT_1 gT_1 ++ (wX6 ((va_up aT_1 0 (aT 0)) 1) aT_1_1 yT_1_1 gT_1_1 ++ (wX4 hT_14 aT_14 yT_14 (sIA gT_14 11 (upd (gIA gT_14 11) ((gI gT_14 4) + (gI gT_14 5)).toNatClampNeg v3)) ++ (wX0 hT_15 aT_15 yT_15 gT_15)))))) := Hx_set X (set_r (n := 5) (i := 12) (j := 17) (wG_len rfl) rfl (set_r (n := 1) (i := 11) (j := 12) (rfl) rfl (set_r (n := 1) (i := 10) (j := 11) (wG_len rfl) rfl (set_r (n := 2) (i := 8) (j := 10) (wG_len rfl) rfl (set_l (by rw [wG_len (m := 11) rfl]; decide) (wG_sIA (i := 7) (k := 11) ndX4 rfl rfl)))))) hP hD hS
    refine lv_aload_n hx hb dX5_readThing_218 rfl (lv_at hl 0 rfl) ?_
    obtain ⟨h_23, hF⟩ := grd_some hF
    refine va_get (D := D.1) (ci := 5) (v := .ref hT_14) (C := RX5) (T := TX5) (N := 18) hx hb hts wi_X5 hown X.1 X.2.1 0 rfl rfl 14 (by decide) (hts _ q3_65) (fun _ h9 => h9) ((fl_get (by decide)).trans (rf_eq h_23)) dX5_readThing_219 ?_
    refine va_getN (D := D.1) (ci := 4) (v := .ref (aT_14 7)) (C := RX4) (T := TX4) (N := 14) hx hb hts wi_X4 hown X.1 X.2.1 9 rfl rfl 7 (by decide) (X.2.2.2.2.2.1.use q2_98 rfl) (fun _ h9 => h9) (fl_get (by decide)) dX5_readThing_222 ?_
    refine lv_iload_n hx hb dX5_readThing_225 rfl (lv_at hl 2 rfl) ?_
    refine lv_iload hx hb dX5_readThing_226 (lv_at hl 3 rfl) ?_
    obtain ⟨h_24, hF⟩ := grd_some hF
    refine va_iast (D := D.1) (f := gIA gT_14 7) hx hb X.1 X.2.1 X.2.2.1 X.2.2.2.1 13 9 rfl rfl (inB_ok h_24) dX5_readThing_228 (fun H locs hP hD hS => ?_)
    have X : Hx D (tX5 yT ++ (tTP yT_0 ++ (tX7 yT_1 ++ (tX6 yT_1_1 ++ (tX4 yT_14 ++ (tX0 yT_15)))))) A s H locs (wX5 hT aT yT gT ++ (wTP (aT 0) aT_0 yT_0 gT_0 ++ (wX7 (aT 1) (va_up aT_1 0 (aT 0)) yT_1 gT_1 ++ (wX6 ((va_up aT_1 0 (aT 0)) 1) aT_1_1 yT_1_1 gT_1_1 ++ (wX4 hT_14 aT_14 yT_14 (sIA (sIA gT_14 11 (upd (gIA gT_14 11) ((gI gT_14 4) + (gI gT_14 5)).toNatClampNeg v3)) 7 (upd (gIA gT_14 7) v3.toNatClampNeg v4)) ++ (wX0 hT_15 aT_15 yT_15 gT_15)))))) := Hx_set X (set_r (n := 5) (i := 8) (j := 13) (wG_len rfl) rfl (set_r (n := 1) (i := 7) (j := 8) (rfl) rfl (set_r (n := 1) (i := 6) (j := 7) (wG_len rfl) rfl (set_r (n := 2) (i := 4) (j := 6) (wG_len rfl) rfl (set_l (by rw [wG_len (m := 11) rfl]; decide) (wG_sIA (i := 3) (k := 7) ndX4 rfl rfl)))))) hP hD hS
    refine lv_aload_n hx hb dX5_readThing_229 rfl (lv_at hl 0 rfl) ?_
    obtain ⟨h_25, hF⟩ := grd_some hF
    refine va_get (D := D.1) (ci := 5) (v := .ref hT_14) (C := RX5) (T := TX5) (N := 18) hx hb hts wi_X5 hown X.1 X.2.1 0 rfl rfl 14 (by decide) (hts _ q3_65) (fun _ h9 => h9) ((fl_get (by decide)).trans (rf_eq h_25)) dX5_readThing_230 ?_
    refine va_getN (D := D.1) (ci := 4) (v := .ref (aT_14 8)) (C := RX4) (T := TX4) (N := 14) hx hb hts wi_X4 hown X.1 X.2.1 9 rfl rfl 8 (by decide) (X.2.2.2.2.2.1.use q2_101 rfl) (fun _ h9 => h9) (fl_get (by decide)) dX5_readThing_233 ?_
    refine lv_iload_n hx hb dX5_readThing_236 rfl (lv_at hl 2 rfl) ?_
    refine lv_iload_n hx hb dX5_readThing_237 rfl (lv_at hl 1 rfl) ?_
    obtain ⟨h_26, hF⟩ := grd_some hF
    refine va_zast (D := D.1) (f := gIA gT_14 8) hx hb X.1 X.2.1 X.2.2.1 X.2.2.2.1 14 10 rfl rfl (inB_ok h_26) dX5_readThing_238 (fun H locs hP hD hS => ?_)
    have X : Hx D (tX5 yT ++ (tTP yT_0 ++ (tX7 yT_1 ++ (tX6 yT_1_1 ++ (tX4 yT_14 ++ (tX0 yT_15)))))) A s H locs (wX5 hT aT yT gT ++ (wTP (aT 0) aT_0 yT_0 gT_0 ++ (wX7 (aT 1) (va_up aT_1 0 (aT 0)) yT_1 gT_1 ++ (wX6 ((va_up aT_1 0 (aT 0)) 1) aT_1_1 yT_1_1 gT_1_1 ++ (wX4 hT_14 aT_14 yT_14 (sIA (sIA (sIA gT_14 11 (upd (gIA gT_14 11) ((gI gT_14 4) + (gI gT_14 5)).toNatClampNeg v3)) 7 (upd (gIA gT_14 7) v3.toNatClampNeg v4)) 8 (upd (gIA gT_14 8) v3.toNatClampNeg (vp_nar .boolean v1))) ++ (wX0 hT_15 aT_15 yT_15 gT_15)))))) := Hx_set X (set_r (n := 5) (i := 9) (j := 14) (wG_len rfl) rfl (set_r (n := 1) (i := 8) (j := 9) (rfl) rfl (set_r (n := 1) (i := 7) (j := 8) (wG_len rfl) rfl (set_r (n := 2) (i := 5) (j := 7) (wG_len rfl) rfl (set_l (by rw [wG_len (m := 11) rfl]; decide) (wG_sIA (i := 4) (k := 8) ndX4 rfl rfl)))))) hP hD hS
    refine lv_aload_n hx hb dX5_readThing_239 rfl (lv_at hl 0 rfl) ?_
    obtain ⟨h_27, hF⟩ := grd_some hF
    refine va_get (D := D.1) (ci := 5) (v := .ref hT_14) (C := RX5) (T := TX5) (N := 18) hx hb hts wi_X5 hown X.1 X.2.1 0 rfl rfl 14 (by decide) (hts _ q3_65) (fun _ h9 => h9) ((fl_get (by decide)).trans (rf_eq h_27)) dX5_readThing_240 ?_
    refine va_getN (D := D.1) (ci := 4) (v := .ref (aT_14 9)) (C := RX4) (T := TX4) (N := 14) hx hb hts wi_X4 hown X.1 X.2.1 9 rfl rfl 9 (by decide) (X.2.2.2.2.2.1.use q2_104 rfl) (fun _ h9 => h9) (fl_get (by decide)) dX5_readThing_243 ?_
    refine lv_iload_n hx hb dX5_readThing_246 rfl (lv_at hl 2 rfl) ?_
    refine lv_iload hx hb dX5_readThing_247 (lv_at hl 4 rfl) ?_
    obtain ⟨h_28, hF⟩ := grd_some hF
    refine va_iast (D := D.1) (f := gIA gT_14 9) hx hb X.1 X.2.1 X.2.2.1 X.2.2.2.1 15 11 rfl rfl (inB_ok h_28) dX5_readThing_249 (fun H locs hP hD hS => ?_)
    have X : Hx D (tX5 yT ++ (tTP yT_0 ++ (tX7 yT_1 ++ (tX6 yT_1_1 ++ (tX4 yT_14 ++ (tX0 yT_15)))))) A s H locs (wX5 hT aT yT gT ++ (wTP (aT 0) aT_0 yT_0 gT_0 ++ (wX7 (aT 1) (va_up aT_1 0 (aT 0)) yT_1 gT_1 ++ (wX6 ((va_up aT_1 0 (aT 0)) 1) aT_1_1 yT_1_1 gT_1_1 ++ (wX4 hT_14 aT_14 yT_14 (sIA (sIA (sIA (sIA gT_14 11 (upd (gIA gT_14 11) ((gI gT_14 4) + (gI gT_14 5)).toNatClampNeg v3)) 7 (upd (gIA gT_14 7) v3.toNatClampNeg v4)) 8 (upd (gIA gT_14 8) v3.toNatClampNeg (vp_nar .boolean v1))) 9 (upd (gIA gT_14 9) v3.toNatClampNeg v6)) ++ (wX0 hT_15 aT_15 yT_15 gT_15)))))) := Hx_set X (set_r (n := 5) (i := 10) (j := 15) (wG_len rfl) rfl (set_r (n := 1) (i := 9) (j := 10) (rfl) rfl (set_r (n := 1) (i := 8) (j := 9) (wG_len rfl) rfl (set_r (n := 2) (i := 6) (j := 8) (wG_len rfl) rfl (set_l (by rw [wG_len (m := 11) rfl]; decide) (wG_sIA (i := 5) (k := 9) ndX4 rfl rfl)))))) hP hD hS
    refine lv_aload_n hx hb dX5_readThing_250 rfl (lv_at hl 0 rfl) ?_
    obtain ⟨h_29, hF⟩ := grd_some hF
    refine va_get (D := D.1) (ci := 5) (v := .ref hT_14) (C := RX5) (T := TX5) (N := 18) hx hb hts wi_X5 hown X.1 X.2.1 0 rfl rfl 14 (by decide) (hts _ q3_65) (fun _ h9 => h9) ((fl_get (by decide)).trans (rf_eq h_29)) dX5_readThing_251 ?_
    refine va_getN (D := D.1) (ci := 4) (v := .ref (aT_14 10)) (C := RX4) (T := TX4) (N := 14) hx hb hts wi_X4 hown X.1 X.2.1 9 rfl rfl 10 (by decide) (X.2.2.2.2.2.1.use q2_107 rfl) (fun _ h9 => h9) (fl_get (by decide)) dX5_readThing_254 ?_
    refine lv_iload_n hx hb dX5_readThing_257 rfl (lv_at hl 2 rfl) ?_
    refine lv_iload hx hb dX5_readThing_258 (lv_at hl 5 rfl) ?_
    obtain ⟨h_30, hF⟩ := grd_some hF
    refine va_iast (D := D.1) (f := gIA gT_14 10) hx hb X.1 X.2.1 X.2.2.1 X.2.2.2.1 16 12 rfl rfl (inB_ok h_30) dX5_readThing_260 (fun H locs hP hD hS => ?_)
    have X : Hx D (tX5 yT ++ (tTP yT_0 ++ (tX7 yT_1 ++ (tX6 yT_1_1 ++ (tX4 yT_14 ++ (tX0 yT_15)))))) A s H locs (wX5 hT aT yT gT ++ (wTP (aT 0) aT_0 yT_0 gT_0 ++ (wX7 (aT 1) (va_up aT_1 0 (aT 0)) yT_1 gT_1 ++ (wX6 ((va_up aT_1 0 (aT 0)) 1) aT_1_1 yT_1_1 gT_1_1 ++ (wX4 hT_14 aT_14 yT_14 (sIA (sIA (sIA (sIA (sIA gT_14 11 (upd (gIA gT_14 11) ((gI gT_14 4) + (gI gT_14 5)).toNatClampNeg v3)) 7 (upd (gIA gT_14 7) v3.toNatClampNeg v4)) 8 (upd (gIA gT_14 8) v3.toNatClampNeg (vp_nar .boolean v1))) 9 (upd (gIA gT_14 9) v3.toNatClampNeg v6)) 10 (upd (gIA gT_14 10) v3.toNatClampNeg v7)) ++ (wX0 hT_15 aT_15 yT_15 gT_15)))))) := Hx_set X (set_r (n := 5) (i := 11) (j := 16) (wG_len rfl) rfl (set_r (n := 1) (i := 10) (j := 11) (rfl) rfl (set_r (n := 1) (i := 9) (j := 10) (wG_len rfl) rfl (set_r (n := 2) (i := 7) (j := 9) (wG_len rfl) rfl (set_l (by rw [wG_len (m := 11) rfl]; decide) (wG_sIA (i := 6) (k := 10) ndX4 rfl rfl)))))) hP hD hS
    refine lv_aload_n hx hb dX5_readThing_261 rfl (lv_at hl 0 rfl) ?_
    obtain ⟨h_31, hF⟩ := grd_some hF
    refine va_get (D := D.1) (ci := 5) (v := .ref hT_14) (C := RX5) (T := TX5) (N := 18) hx hb hts wi_X5 hown X.1 X.2.1 0 rfl rfl 14 (by decide) (hts _ q3_65) (fun _ h9 => h9) ((fl_get (by decide)).trans (rf_eq h_31)) dX5_readThing_262 ?_
    refine lv_dup hx hb dX5_readThing_265 rfl ?_
    refine va_getN (D := D.1) (ci := 4) (v := .int (gI gT_14 4)) (C := RX4) (T := TX4) (N := 14) hx hb hts wi_X4 hown X.1 X.2.1 9 rfl rfl 4 (by decide) (X.2.2.2.2.2.1.use q2_83 rfl) (fun _ h9 => h9) (fl_get (by decide)) dX5_readThing_266 ?_
    refine lv_iconst (v := (1 : Int32)) hx hb dX5_readThing_269 (by decide) ?_
    refine lv_iadd hx hb dX5_readThing_270 ?_
    refine va_putN (D := D.1) (ci := 4) (v := .int ((gI gT_14 4) + (1 : Int32))) (ty := .int) (C := RX4) (T := TX4) (N := 14) hx hb hts wi_X4 tyX4 tyX4_ok nmX4 hown X.1 X.2.1 X.2.2.1 X.2.2.2.1 9 rfl rfl 4 (by decide) (X.2.2.2.2.2.1.use q2_83 rfl) (fun _ h9 => h9) rfl (by decide +kernel) rfl rfl (by rw [List.length_map, List.length_range]; decide) dX5_readThing_271 (fun H locs hP hD hS => ?_)
    have X : Hx D (tX5 yT ++ (tTP yT_0 ++ (tX7 yT_1 ++ (tX6 yT_1_1 ++ (tX4 yT_14 ++ (tX0 yT_15)))))) A s H locs (wX5 hT aT yT gT ++ (wTP (aT 0) aT_0 yT_0 gT_0 ++ (wX7 (aT 1) (va_up aT_1 0 (aT 0)) yT_1 gT_1 ++ (wX6 ((va_up aT_1 0 (aT 0)) 1) aT_1_1 yT_1_1 gT_1_1 ++ (wX4 hT_14 aT_14 yT_14 (sI (sIA (sIA (sIA (sIA (sIA gT_14 11 (upd (gIA gT_14 11) ((gI gT_14 4) + (gI gT_14 5)).toNatClampNeg v3)) 7 (upd (gIA gT_14 7) v3.toNatClampNeg v4)) 8 (upd (gIA gT_14 8) v3.toNatClampNeg (vp_nar .boolean v1))) 9 (upd (gIA gT_14 9) v3.toNatClampNeg v6)) 10 (upd (gIA gT_14 10) v3.toNatClampNeg v7)) 4 ((gI gT_14 4) + (1 : Int32))) ++ (wX0 hT_15 aT_15 yT_15 gT_15)))))) := Hx_set X (set_r (n := 5) (i := 4) (j := 9) (wG_len rfl) rfl (set_r (n := 1) (i := 3) (j := 4) (rfl) rfl (set_r (n := 1) (i := 2) (j := 3) (wG_len rfl) rfl (set_r (n := 2) (i := 0) (j := 2) (wG_len rfl) rfl (set_l (by rw [wG_len (m := 11) rfl]; decide) (wG_sI (k := 4) rfl)))))) hP hD hS
    exact (k_X5_readThing_274 l D hT aT yT aT_0 yT_0 aT_1 yT_1 aT_1_1 yT_1_1 hT_14 aT_14 yT_14 hT_15 aT_15 yT_15 n) C X (lv_sub hl [0] rfl) hF
set_option maxHeartbeats 4000000 in
set_option maxRecDepth 100000 in
theorem c_X5_readThing (l : Launch) (D : Dx) (hT : Nat) (aT : Nat → Nat) (yT : Nat → ClassId) (aT_0 : Nat → Nat) (yT_0 : Nat → ClassId) (aT_1 : Nat → Nat) (yT_1 : Nat → ClassId) (aT_1_1 : Nat → Nat) (yT_1_1 : Nat → ClassId) (hT_14 : Nat) (aT_14 : Nat → Nat) (yT_14 : Nat → ClassId) (hT_15 : Nat) (aT_15 : Nat → Nat) (yT_15 : Nat → ClassId) (n : Nat) (gT : Gs) (gT_0 : Gs) (gT_1 : Gs) (gT_1_1 : Gs) (gT_14 : Gs) (gT_15 : Gs) (x0 : Int32) (q : Int32 × Gs × Gs × Gs × Gs) (hF : f_X5_readThing n hT_14 hT_15 gT gT_0 gT_1 gT_1_1 gT_14 gT_15 x0 = some q) (sz : Nat) : Met l yX5_readThing (ws_ yX5_readThing cX5_readThing 8 (some .boolean)) R_X5_readThing (PC D (tX5 yT ++ (tTP yT_0 ++ (tX7 yT_1 ++ (tX6 yT_1_1 ++ (tX4 yT_14 ++ (tX0 yT_15)))))) [.ref hT, .int x0] (wX5 hT aT yT gT ++ (wTP (aT 0) aT_0 yT_0 gT_0 ++ (wX7 (aT 1) (va_up aT_1 0 (aT 0)) yT_1 gT_1 ++ (wX6 ((va_up aT_1 0 (aT 0)) 1) aT_1_1 yT_1_1 gT_1_1 ++ (wX4 hT_14 aT_14 yT_14 gT_14 ++ (wX0 hT_15 aT_15 yT_15 gT_15)))))) sz) (QI D (va_A (wX5 hT aT yT gT ++ (wTP (aT 0) aT_0 yT_0 gT_0 ++ (wX7 (aT 1) (va_up aT_1 0 (aT 0)) yT_1 gT_1 ++ (wX6 ((va_up aT_1 0 (aT 0)) 1) aT_1_1 yT_1_1 gT_1_1 ++ (wX4 hT_14 aT_14 yT_14 gT_14 ++ (wX0 hT_15 aT_15 yT_15 gT_15)))))) sz) (wX5 hT aT yT q.2.1 ++ (wTP (aT 0) aT_0 yT_0 gT_0 ++ (wX7 (aT 1) (va_up aT_1 0 (aT 0)) yT_1 q.2.2.1 ++ (wX6 ((va_up aT_1 0 (aT 0)) 1) aT_1_1 yT_1_1 gT_1_1 ++ (wX4 hT_14 aT_14 yT_14 q.2.2.2.1 ++ (wX0 hT_15 aT_15 yT_15 q.2.2.2.2)))))) q.1) 0 0 (va_A (wX5 hT aT yT gT ++ (wTP (aT 0) aT_0 yT_0 gT_0 ++ (wX7 (aT 1) (va_up aT_1 0 (aT 0)) yT_1 gT_1 ++ (wX6 ((va_up aT_1 0 (aT 0)) 1) aT_1_1 yT_1_1 gT_1_1 ++ (wX4 hT_14 aT_14 yT_14 gT_14 ++ (wX0 hT_15 aT_15 yT_15 gT_15)))))) sz) := by
  refine Met.ofW (cc := cX5_readThing) (maxL := 8) (ret := (some .boolean)) (by decide) rfl ?_
  intro p e s m args below meth c s₁ B hml hv
  obtain ⟨rfl, hsz, hP, hK, hD, hN⟩ := hv
  subst hsz
  have C : Cx p s m _ meth c cX5_readThing (some .boolean) 8 RX5 lw_all := Cx_of B hml
  have X := Hx_start hP hK hD hN
  obtain ⟨hx, hb, hr, -, hown, hts, hlk⟩ := id C
  generalize va_A (wX5 hT aT yT gT ++ (wTP (aT 0) aT_0 yT_0 gT_0 ++ (wX7 (aT 1) (va_up aT_1 0 (aT 0)) yT_1 gT_1 ++ (wX6 ((va_up aT_1 0 (aT 0)) 1) aT_1_1 yT_1_1 gT_1_1 ++ (wX4 hT_14 aT_14 yT_14 gT_14 ++ (wX0 hT_15 aT_15 yT_15 gT_15)))))) s.heap.size = A at X ⊢
  have hl := lv_entry ([.ref hT, .int x0]) (n := 8) (Nat.le_of_ble_eq_true rfl)
  rw [lg_entry_eq]
  generalize (lg_sl ([.ref hT, .int x0]) ++ List.replicate (8 - (lg_sl ([.ref hT, .int x0])).length) Slot.unset).toArray = ls at hl ⊢
  have hl : lv_has ls 8 [(0, .ref hT), (1, .int x0)] := hl
  unfold f_X5_readThing at hF
  refine lv_aload_n hx hb dX5_readThing_0 rfl (lv_at hl 0 rfl) ?_
  refine va_get (D := D.1) (ci := 5) (v := .ref (aT 1)) (C := RX5) (T := TX5) (N := 18) hx hb hts wi_X5 hown X.1 X.2.1 0 rfl rfl 1 (by decide) (hts _ q3_52) (fun _ h9 => h9) (fl_get (by decide)) dX5_readThing_1 ?_
  obtain ⟨q_1, hc_2, hF⟩ := bnd_some hF
  refine cV_v (As := []) (rest := []) C X (c_X7_advance l D (aT 1) (va_up aT_1 0 (aT 0)) yT_1 aT_0 yT_0 aT_1_1 yT_1_1 n gT_1 gT_0 gT_1_1 q_1 hc_2 _) (cwV 0 hts (good_V q4_61 q3_131 q3_132 q1_12 q3_133) rfl rfl rfl (by decide +kernel) ⟨Nat.le_of_ble_eq_true rfl, Nat.le_of_ble_eq_true rfl⟩) (va_recv X.1 X.2.1 (ci := 7) (q0 := 6) rfl rfl) (X.1.sub (tys' := tX7 yT_1 ++ (tTP yT_0 ++ (tX6 yT_1_1))) [4, 5] rfl) (X.2.1.sub (ws' := wX7 (aT 1) (va_up aT_1 0 (aT 0)) yT_1 gT_1 ++ (wTP (aT 0) aT_0 yT_0 gT_0 ++ (wX6 ((va_up aT_1 0 (aT 0)) 1) aT_1_1 yT_1_1 gT_1_1))) [6, 5, 7, 8] rfl) (X.2.2.1.sub (ws' := wX7 (aT 1) (va_up aT_1 0 (aT 0)) yT_1 gT_1 ++ (wTP (aT 0) aT_0 yT_0 gT_0 ++ (wX6 ((va_up aT_1 0 (aT 0)) 1) aT_1_1 yT_1_1 gT_1_1))) [6, 5, 7, 8] (by decide) rfl) (free_of (wC := wX7 (aT 1) (va_up aT_1 0 (aT 0)) yT_1 gT_1 ++ (wTP (aT 0) aT_0 yT_0 gT_0 ++ (wX6 ((va_up aT_1 0 (aT 0)) 1) aT_1_1 yT_1_1 gT_1_1))) (isC := [6, 5, 7, 8]) X rfl) hl.1 rfl rfl (Nat.le_of_ble_eq_true rfl) dX5_readThing_4 ⟨Nat.le_of_ble_eq_true rfl, Nat.le_of_ble_eq_true rfl⟩ (fun t H1 locs1 ht hB hk hS => ?_)
  have X : Hx D (tX5 yT ++ (tTP yT_0 ++ (tX7 yT_1 ++ (tX6 yT_1_1 ++ (tX4 yT_14 ++ (tX0 yT_15)))))) A s H1 locs1 (wX5 hT aT yT gT ++ (wTP (aT 0) aT_0 yT_0 gT_0 ++ (wX7 (aT 1) (va_up aT_1 0 (aT 0)) yT_1 q_1 ++ (wX6 ((va_up aT_1 0 (aT 0)) 1) aT_1_1 yT_1_1 gT_1_1 ++ (wX4 hT_14 aT_14 yT_14 gT_14 ++ (wX0 hT_15 aT_15 yT_15 gT_15)))))) := Hx_after (isC := [6, 5, 7, 8]) (isR := [0, 1, 2, 3, 4, 9, 10, 11, 12, 13, 14, 15, 16, 17, 18, 19, 20, 21, 22, 23, 24, 25, 26, 27, 28, 29, 30, 31, 32, 33, 34, 35]) (pm := [0, 1, 2, 3, 4, 33, 32, 34, 35, 5, 6, 7, 8, 9, 10, 11, 12, 13, 14, 15, 16, 17, 18, 19, 20, 21, 22, 23, 24, 25, 26, 27, 28, 29, 30, 31]) (wr := wX5 hT aT yT gT ++ (wX4 hT_14 aT_14 yT_14 gT_14 ++ (wX0 hT_15 aT_15 yT_15 gT_15))) X ⟨rfl, rfl, by decide, by decide, rfl, by decide⟩ ht hB hk hS
  clear hk hS ht hB
  generalize H1 = H at X ⊢
  generalize locs1 = locs at X ⊢
  refine lv_aload_n hx hb dX5_readThing_7 rfl (lv_at hl 0 rfl) ?_
  refine va_get (D := D.1) (ci := 5) (v := .ref (aT 1)) (C := RX5) (T := TX5) (N := 18) hx hb hts wi_X5 hown X.1 X.2.1 0 rfl rfl 1 (by decide) (hts _ q3_52) (fun _ h9 => h9) (fl_get (by decide)) dX5_readThing_8 ?_
  refine va_getN (D := D.1) (ci := 7) (v := .int (gI q_1 4)) (C := RX7) (T := TX7) (N := 12) hx hb hts wi_X7 hown X.1 X.2.1 6 rfl rfl 4 (by decide) (X.2.2.2.2.2.1.use q3_0 rfl) (fun _ h9 => h9) (fl_get (by decide)) dX5_readThing_11 ?_
  refine lv_iconst (v := (2 : Int32)) hx hb dX5_readThing_14 (by decide) ?_
  refine lv_icmp_eq (tgt := 20) hx hb dX5_readThing_15 (by decide) (fun c => ?_) (fun c => ?_)
  · replace hF := iT c hF
    refine lv_aload_n hx hb dX5_readThing_20 rfl (lv_at hl 0 rfl) ?_
    obtain ⟨h_3, hF⟩ := grd_some hF
    refine va_get (D := D.1) (ci := 5) (v := .ref hT_14) (C := RX5) (T := TX5) (N := 18) hx hb hts wi_X5 hown X.1 X.2.1 0 rfl rfl 14 (by decide) (hts _ q3_65) (fun _ h9 => h9) ((fl_get (by decide)).trans (rf_eq h_3)) dX5_readThing_21 ?_
    refine va_getN (D := D.1) (ci := 4) (v := .int (gI gT_14 6)) (C := RX4) (T := TX4) (N := 14) hx hb hts wi_X4 hown X.1 X.2.1 9 rfl rfl 6 (by decide) (X.2.2.2.2.2.1.use q2_93 rfl) (fun _ h9 => h9) (fl_get (by decide)) dX5_readThing_24 ?_
    refine lv_istore_n (lv' := [(2, .int (gI gT_14 6)), (0, .ref hT), (1, .int x0)]) hx hb dX5_readThing_27 rfl hl (by decide) rfl (fun ls hl => ?_)
    refine lv_aload_n hx hb dX5_readThing_28 rfl (lv_at hl 1 rfl) ?_
    refine lv_iconst (v := (0 : Int32)) hx hb dX5_readThing_29 (by decide) ?_
    refine lv_aload_n hx hb dX5_readThing_30 rfl (lv_at hl 1 rfl) ?_
    obtain ⟨h_4, hF⟩ := grd_some hF
    refine va_get (D := D.1) (ci := 5) (v := .ref hT_14) (C := RX5) (T := TX5) (N := 18) hx hb hts wi_X5 hown X.1 X.2.1 0 rfl rfl 14 (by decide) (hts _ q3_65) (fun _ h9 => h9) ((fl_get (by decide)).trans (rf_eq h_4)) dX5_readThing_31 ?_
    refine va_getN (D := D.1) (ci := 4) (v := .int (gI gT_14 4)) (C := RX4) (T := TX4) (N := 14) hx hb hts wi_X4 hown X.1 X.2.1 9 rfl rfl 4 (by decide) (X.2.2.2.2.2.1.use q2_83 rfl) (fun _ h9 => h9) (fl_get (by decide)) dX5_readThing_34 ?_
    refine lv_bipush (v := (40 : Int32)) hx hb dX5_readThing_37 (by decide) ?_
    obtain ⟨q_5, hc_6, hF⟩ := bnd_some hF
    refine cV_i (As := [.int (0 : Int32), .int (gI gT_14 4), .int (40 : Int32)]) (rest := []) C X (c_X5_tell l D hT aT yT aT_0 yT_0 (va_up aT_1 0 (aT 0)) yT_1 aT_1_1 yT_1_1 hT_14 aT_14 yT_14 hT_15 aT_15 yT_15 n gT gT_0 q_1 gT_1_1 gT_14 gT_15 (0 : Int32) (gI gT_14 4) (40 : Int32) q_5 hc_6 _) (cwV 3 hts (good_V q4_62 q4_64 q0_12 q1_10 q4_65) rfl rfl rfl (by decide +kernel) ⟨Nat.le_of_ble_eq_true rfl, Nat.le_of_ble_eq_true rfl⟩) (va_recv X.1 X.2.1 (ci := 5) (q0 := 0) rfl rfl) X.1 X.2.1 X.2.2.1 (free_all X) hl.1 rfl rfl (Nat.le_of_ble_eq_true rfl) dX5_readThing_39 ⟨Nat.le_of_ble_eq_true rfl, Nat.le_of_ble_eq_true rfl⟩ (fun t H1 locs1 ht hB hk hS => ?_)
    have X : Hx D (tX5 yT ++ (tTP yT_0 ++ (tX7 yT_1 ++ (tX6 yT_1_1 ++ (tX4 yT_14 ++ (tX0 yT_15)))))) A s H1 locs1 (wX5 hT aT yT q_5.2.1 ++ (wTP (aT 0) aT_0 yT_0 gT_0 ++ (wX7 (aT 1) (va_up aT_1 0 (aT 0)) yT_1 q_5.2.2.1 ++ (wX6 ((va_up aT_1 0 (aT 0)) 1) aT_1_1 yT_1_1 gT_1_1 ++ (wX4 hT_14 aT_14 yT_14 q_5.2.2.2.1 ++ (wX0 hT_15 aT_15 yT_15 q_5.2.2.2.2)))))) := Hx_after_all X ht hB hS
    clear hk hS ht hB
    generalize H1 = H at X ⊢
    generalize locs1 = locs at X ⊢
    refine lv_istore_n (lv' := [(3, .int q_5.1), (2, .int (gI gT_14 6)), (0, .ref hT), (1, .int x0)]) hx hb dX5_readThing_42 rfl hl (by decide) rfl (fun ls hl => ?_)
    refine lv_aload_n hx hb dX5_readThing_43 rfl (lv_at hl 2 rfl) ?_
    refine lv_bipush (v := (40 : Int32)) hx hb dX5_readThing_44 (by decide) ?_
    obtain ⟨q_7, hc_8, hF⟩ := bnd_some hF
    refine cV_i (As := [.int (40 : Int32)]) (rest := []) C X (c_X5_expect l D hT aT yT aT_0 yT_0 (va_up aT_1 0 (aT 0)) yT_1 aT_1_1 yT_1_1 n q_5.2.1 gT_0 q_5.2.2.1 gT_1_1 (40 : Int32) q_7 hc_8 _) (cwV 1 hts (good_V q4_78 q4_80 q0_14 q1_10 q4_81) rfl rfl rfl (by decide +kernel) ⟨Nat.le_of_ble_eq_true rfl, Nat.le_of_ble_eq_true rfl⟩) (va_recv X.1 X.2.1 (ci := 5) (q0 := 0) rfl rfl) (X.1.sub (tys' := tX5 yT ++ (tTP yT_0 ++ (tX7 yT_1 ++ (tX6 yT_1_1)))) [0, 1, 2, 3, 4, 5] rfl) (X.2.1.sub (ws' := wX5 hT aT yT q_5.2.1 ++ (wTP (aT 0) aT_0 yT_0 gT_0 ++ (wX7 (aT 1) (va_up aT_1 0 (aT 0)) yT_1 q_5.2.2.1 ++ (wX6 ((va_up aT_1 0 (aT 0)) 1) aT_1_1 yT_1_1 gT_1_1)))) [0, 1, 2, 3, 4, 5, 6, 7, 8] rfl) (X.2.2.1.sub (ws' := wX5 hT aT yT q_5.2.1 ++ (wTP (aT 0) aT_0 yT_0 gT_0 ++ (wX7 (aT 1) (va_up aT_1 0 (aT 0)) yT_1 q_5.2.2.1 ++ (wX6 ((va_up aT_1 0 (aT 0)) 1) aT_1_1 yT_1_1 gT_1_1)))) [0, 1, 2, 3, 4, 5, 6, 7, 8] (by decide) rfl) (free_of (wC := wX5 hT aT yT q_5.2.1 ++ (wTP (aT 0) aT_0 yT_0 gT_0 ++ (wX7 (aT 1) (va_up aT_1 0 (aT 0)) yT_1 q_5.2.2.1 ++ (wX6 ((va_up aT_1 0 (aT 0)) 1) aT_1_1 yT_1_1 gT_1_1)))) (isC := [0, 1, 2, 3, 4, 5, 6, 7, 8]) X rfl) hl.1 rfl rfl (Nat.le_of_ble_eq_true rfl) dX5_readThing_46 ⟨Nat.le_of_ble_eq_true rfl, Nat.le_of_ble_eq_true rfl⟩ (fun t H1 locs1 ht hB hk hS => ?_)
    have X : Hx D (tX5 yT ++ (tTP yT_0 ++ (tX7 yT_1 ++ (tX6 yT_1_1 ++ (tX4 yT_14 ++ (tX0 yT_15)))))) A s H1 locs1 (wX5 hT aT yT q_5.2.1 ++ (wTP (aT 0) aT_0 yT_0 gT_0 ++ (wX7 (aT 1) (va_up aT_1 0 (aT 0)) yT_1 q_7.2 ++ (wX6 ((va_up aT_1 0 (aT 0)) 1) aT_1_1 yT_1_1 gT_1_1 ++ (wX4 hT_14 aT_14 yT_14 q_5.2.2.2.1 ++ (wX0 hT_15 aT_15 yT_15 q_5.2.2.2.2)))))) := Hx_after (isC := [0, 1, 2, 3, 4, 5, 6, 7, 8]) (isR := [9, 10, 11, 12, 13, 14, 15, 16, 17, 18, 19, 20, 21, 22, 23, 24, 25, 26, 27, 28, 29, 30, 31, 32, 33, 34, 35]) (pm := [27, 28, 29, 30, 31, 32, 33, 34, 35, 0, 1, 2, 3, 4, 5, 6, 7, 8, 9, 10, 11, 12, 13, 14, 15, 16, 17, 18, 19, 20, 21, 22, 23, 24, 25, 26]) (wr := wX4 hT_14 aT_14 yT_14 q_5.2.2.2.1 ++ (wX0 hT_15 aT_15 yT_15 q_5.2.2.2.2)) X ⟨rfl, rfl, by decide, by decide, rfl, by decide⟩ ht hB hk hS
    clear hk hS ht hB
    generalize H1 = H at X ⊢
    generalize locs1 = locs at X ⊢
    refine lv_if_eq (tgt := 76) hx hb dX5_readThing_49 (by decide) (fun c => ?_) (fun c => ?_)
    · replace hF := iT c hF
      refine lv_iconst (v := (0 : Int32)) hx hb dX5_readThing_76 (by decide) ?_
      have hq := Option.some.inj hF
      subst hq
      exact rt_z (v := (0 : Int32)) C X (by decide) dX5_readThing_77
    · replace hF := iF c hF
      refine lv_aload_n hx hb dX5_readThing_52 rfl (lv_at hl 2 rfl) ?_
      refine va_get (D := D.1) (ci := 5) (v := .ref (aT 1)) (C := RX5) (T := TX5) (N := 18) hx hb hts wi_X5 hown X.1 X.2.1 0 rfl rfl 1 (by decide) (hts _ q3_52) (fun _ h9 => h9) (fl_get (by decide)) dX5_readThing_53 ?_
      refine va_getN (D := D.1) (ci := 7) (v := .int (gI q_7.2 4)) (C := RX7) (T := TX7) (N := 12) hx hb hts wi_X7 hown X.1 X.2.1 6 rfl rfl 4 (by decide) (X.2.2.2.2.2.1.use q3_0 rfl) (fun _ h9 => h9) (fl_get (by decide)) dX5_readThing_56 ?_
      refine lv_bipush (v := (28 : Int32)) hx hb dX5_readThing_59 (by decide) ?_
      refine lv_icmp_lt (tgt := 76) hx hb dX5_readThing_61 (by decide) (fun c => ?_) (fun c => ?_)
      · replace hF := iT c hF
        refine lv_iconst (v := (0 : Int32)) hx hb dX5_readThing_76 (by decide) ?_
        have hq := Option.some.inj hF
        subst hq
        exact rt_z (v := (0 : Int32)) C X (by decide) dX5_readThing_77
      · replace hF := iF c hF
        refine lv_aload_n hx hb dX5_readThing_64 rfl (lv_at hl 2 rfl) ?_
        refine va_get (D := D.1) (ci := 5) (v := .ref (aT 1)) (C := RX5) (T := TX5) (N := 18) hx hb hts wi_X5 hown X.1 X.2.1 0 rfl rfl 1 (by decide) (hts _ q3_52) (fun _ h9 => h9) (fl_get (by decide)) dX5_readThing_65 ?_
        refine va_getN (D := D.1) (ci := 7) (v := .int (gI q_7.2 4)) (C := RX7) (T := TX7) (N := 12) hx hb hts wi_X7 hown X.1 X.2.1 6 rfl rfl 4 (by decide) (X.2.2.2.2.2.1.use q3_0 rfl) (fun _ h9 => h9) (fl_get (by decide)) dX5_readThing_68 ?_
        refine lv_bipush (v := (35 : Int32)) hx hb dX5_readThing_71 (by decide) ?_
        refine lv_icmp_le (tgt := 78) hx hb dX5_readThing_73 (by decide) (fun c => ?_) (fun c => ?_)
        · replace hF := iT c hF
          refine lv_aload_n hx hb dX5_readThing_78 rfl (lv_at hl 2 rfl) ?_
          refine va_get (D := D.1) (ci := 5) (v := .ref (aT 1)) (C := RX5) (T := TX5) (N := 18) hx hb hts wi_X5 hown X.1 X.2.1 0 rfl rfl 1 (by decide) (hts _ q3_52) (fun _ h9 => h9) (fl_get (by decide)) dX5_readThing_79 ?_
          refine va_getN (D := D.1) (ci := 7) (v := .int (gI q_7.2 4)) (C := RX7) (T := TX7) (N := 12) hx hb hts wi_X7 hown X.1 X.2.1 6 rfl rfl 4 (by decide) (X.2.2.2.2.2.1.use q3_0 rfl) (fun _ h9 => h9) (fl_get (by decide)) dX5_readThing_82 ?_
          refine lv_bipush (v := (28 : Int32)) hx hb dX5_readThing_85 (by decide) ?_
          refine lv_isub hx hb dX5_readThing_87 ?_
          refine lv_istore (lv' := [(4, .int ((gI q_7.2 4) - (28 : Int32))), (3, .int q_5.1), (2, .int (gI gT_14 6)), (0, .ref hT), (1, .int x0)]) hx hb dX5_readThing_88 hl (by decide) rfl (fun ls hl => ?_)
          refine lv_aload_n hx hb dX5_readThing_90 rfl (lv_at hl 3 rfl) ?_
          refine va_get (D := D.1) (ci := 5) (v := .ref (aT 1)) (C := RX5) (T := TX5) (N := 18) hx hb hts wi_X5 hown X.1 X.2.1 0 rfl rfl 1 (by decide) (hts _ q3_52) (fun _ h9 => h9) (fl_get (by decide)) dX5_readThing_91 ?_
          obtain ⟨q_9, hc_10, hF⟩ := bnd_some hF
          refine cV_v (As := []) (rest := []) C X (c_X7_advance l D (aT 1) (va_up aT_1 0 (aT 0)) yT_1 aT_0 yT_0 aT_1_1 yT_1_1 n q_7.2 gT_0 gT_1_1 q_9 hc_10 _) (cwV 0 hts (good_V q4_61 q3_131 q3_132 q1_12 q3_133) rfl rfl rfl (by decide +kernel) ⟨Nat.le_of_ble_eq_true rfl, Nat.le_of_ble_eq_true rfl⟩) (va_recv X.1 X.2.1 (ci := 7) (q0 := 6) rfl rfl) (X.1.sub (tys' := tX7 yT_1 ++ (tTP yT_0 ++ (tX6 yT_1_1))) [4, 5] rfl) (X.2.1.sub (ws' := wX7 (aT 1) (va_up aT_1 0 (aT 0)) yT_1 q_7.2 ++ (wTP (aT 0) aT_0 yT_0 gT_0 ++ (wX6 ((va_up aT_1 0 (aT 0)) 1) aT_1_1 yT_1_1 gT_1_1))) [6, 5, 7, 8] rfl) (X.2.2.1.sub (ws' := wX7 (aT 1) (va_up aT_1 0 (aT 0)) yT_1 q_7.2 ++ (wTP (aT 0) aT_0 yT_0 gT_0 ++ (wX6 ((va_up aT_1 0 (aT 0)) 1) aT_1_1 yT_1_1 gT_1_1))) [6, 5, 7, 8] (by decide) rfl) (free_of (wC := wX7 (aT 1) (va_up aT_1 0 (aT 0)) yT_1 q_7.2 ++ (wTP (aT 0) aT_0 yT_0 gT_0 ++ (wX6 ((va_up aT_1 0 (aT 0)) 1) aT_1_1 yT_1_1 gT_1_1))) (isC := [6, 5, 7, 8]) X rfl) hl.1 rfl rfl (Nat.le_of_ble_eq_true rfl) dX5_readThing_94 ⟨Nat.le_of_ble_eq_true rfl, Nat.le_of_ble_eq_true rfl⟩ (fun t H1 locs1 ht hB hk hS => ?_)
          have X : Hx D (tX5 yT ++ (tTP yT_0 ++ (tX7 yT_1 ++ (tX6 yT_1_1 ++ (tX4 yT_14 ++ (tX0 yT_15)))))) A s H1 locs1 (wX5 hT aT yT q_5.2.1 ++ (wTP (aT 0) aT_0 yT_0 gT_0 ++ (wX7 (aT 1) (va_up aT_1 0 (aT 0)) yT_1 q_9 ++ (wX6 ((va_up aT_1 0 (aT 0)) 1) aT_1_1 yT_1_1 gT_1_1 ++ (wX4 hT_14 aT_14 yT_14 q_5.2.2.2.1 ++ (wX0 hT_15 aT_15 yT_15 q_5.2.2.2.2)))))) := Hx_after (isC := [6, 5, 7, 8]) (isR := [0, 1, 2, 3, 4, 9, 10, 11, 12, 13, 14, 15, 16, 17, 18, 19, 20, 21, 22, 23, 24, 25, 26, 27, 28, 29, 30, 31, 32, 33, 34, 35]) (pm := [0, 1, 2, 3, 4, 33, 32, 34, 35, 5, 6, 7, 8, 9, 10, 11, 12, 13, 14, 15, 16, 17, 18, 19, 20, 21, 22, 23, 24, 25, 26, 27, 28, 29, 30, 31]) (wr := wX5 hT aT yT q_5.2.1 ++ (wX4 hT_14 aT_14 yT_14 q_5.2.2.2.1 ++ (wX0 hT_15 aT_15 yT_15 q_5.2.2.2.2))) X ⟨rfl, rfl, by decide, by decide, rfl, by decide⟩ ht hB hk hS
          clear hk hS ht hB
          generalize H1 = H at X ⊢
          generalize locs1 = locs at X ⊢
          refine lv_aload_n hx hb dX5_readThing_97 rfl (lv_at hl 3 rfl) ?_
          refine va_get (D := D.1) (ci := 5) (v := .ref (aT 1)) (C := RX5) (T := TX5) (N := 18) hx hb hts wi_X5 hown X.1 X.2.1 0 rfl rfl 1 (by decide) (hts _ q3_52) (fun _ h9 => h9) (fl_get (by decide)) dX5_readThing_98 ?_
          refine va_getN (D := D.1) (ci := 7) (v := .int (gI q_9 5)) (C := RX7) (T := TX7) (N := 12) hx hb hts wi_X7 hown X.1 X.2.1 6 rfl rfl 5 (by decide) (X.2.2.2.2.2.1.use q3_2 rfl) (fun _ h9 => h9) (fl_get (by decide)) dX5_readThing_101 ?_
          refine lv_istore (lv' := [(5, .int (gI q_9 5)), (4, .int ((gI q_7.2 4) - (28 : Int32))), (3, .int q_5.1), (2, .int (gI gT_14 6)), (0, .ref hT), (1, .int x0)]) hx hb dX5_readThing_104 hl (by decide) rfl (fun ls hl => ?_)
          refine lv_aload_n hx hb dX5_readThing_106 rfl (lv_at hl 4 rfl) ?_
          obtain ⟨h_11, hF⟩ := grd_some hF
          refine va_get (D := D.1) (ci := 5) (v := .ref hT_15) (C := RX5) (T := TX5) (N := 18) hx hb hts wi_X5 hown X.1 X.2.1 0 rfl rfl 15 (by decide) (hts _ q3_66) (fun _ h9 => h9) ((fl_get (by decide)).trans (rf_eq h_11)) dX5_readThing_107 ?_
          refine va_getN (D := D.1) (ci := 0) (v := .int (gI q_5.2.2.2.2 18)) (C := RX0) (T := TX0) (N := 19) hx hb hts wi_X0 hown X.1 X.2.1 20 rfl rfl 18 (by decide) (X.2.2.2.2.2.1.use q2_27 rfl) (fun _ h9 => h9) (fl_get (by decide)) dX5_readThing_110 ?_
          refine lv_istore (lv' := [(6, .int (gI q_5.2.2.2.2 18)), (5, .int (gI q_9 5)), (4, .int ((gI q_7.2 4) - (28 : Int32))), (3, .int q_5.1), (2, .int (gI gT_14 6)), (0, .ref hT), (1, .int x0)]) hx hb dX5_readThing_113 hl (by decide) rfl (fun ls hl => ?_)
          refine lv_aload_n hx hb dX5_readThing_115 rfl (lv_at hl 5 rfl) ?_
          refine lv_bipush (v := (43 : Int32)) hx hb dX5_readThing_116 (by decide) ?_
          obtain ⟨q_12, hc_13, hF⟩ := bnd_some hF
          refine cV_i (As := [.int (43 : Int32)]) (rest := []) C X (c_X5_expect l D hT aT yT aT_0 yT_0 (va_up aT_1 0 (aT 0)) yT_1 aT_1_1 yT_1_1 n q_5.2.1 gT_0 q_9 gT_1_1 (43 : Int32) q_12 hc_13 _) (cwV 1 hts (good_V q4_78 q4_80 q0_14 q1_10 q4_81) rfl rfl rfl (by decide +kernel) ⟨Nat.le_of_ble_eq_true rfl, Nat.le_of_ble_eq_true rfl⟩) (va_recv X.1 X.2.1 (ci := 5) (q0 := 0) rfl rfl) (X.1.sub (tys' := tX5 yT ++ (tTP yT_0 ++ (tX7 yT_1 ++ (tX6 yT_1_1)))) [0, 1, 2, 3, 4, 5] rfl) (X.2.1.sub (ws' := wX5 hT aT yT q_5.2.1 ++ (wTP (aT 0) aT_0 yT_0 gT_0 ++ (wX7 (aT 1) (va_up aT_1 0 (aT 0)) yT_1 q_9 ++ (wX6 ((va_up aT_1 0 (aT 0)) 1) aT_1_1 yT_1_1 gT_1_1)))) [0, 1, 2, 3, 4, 5, 6, 7, 8] rfl) (X.2.2.1.sub (ws' := wX5 hT aT yT q_5.2.1 ++ (wTP (aT 0) aT_0 yT_0 gT_0 ++ (wX7 (aT 1) (va_up aT_1 0 (aT 0)) yT_1 q_9 ++ (wX6 ((va_up aT_1 0 (aT 0)) 1) aT_1_1 yT_1_1 gT_1_1)))) [0, 1, 2, 3, 4, 5, 6, 7, 8] (by decide) rfl) (free_of (wC := wX5 hT aT yT q_5.2.1 ++ (wTP (aT 0) aT_0 yT_0 gT_0 ++ (wX7 (aT 1) (va_up aT_1 0 (aT 0)) yT_1 q_9 ++ (wX6 ((va_up aT_1 0 (aT 0)) 1) aT_1_1 yT_1_1 gT_1_1)))) (isC := [0, 1, 2, 3, 4, 5, 6, 7, 8]) X rfl) hl.1 rfl rfl (Nat.le_of_ble_eq_true rfl) dX5_readThing_118 ⟨Nat.le_of_ble_eq_true rfl, Nat.le_of_ble_eq_true rfl⟩ (fun t H1 locs1 ht hB hk hS => ?_)
          have X : Hx D (tX5 yT ++ (tTP yT_0 ++ (tX7 yT_1 ++ (tX6 yT_1_1 ++ (tX4 yT_14 ++ (tX0 yT_15)))))) A s H1 locs1 (wX5 hT aT yT q_5.2.1 ++ (wTP (aT 0) aT_0 yT_0 gT_0 ++ (wX7 (aT 1) (va_up aT_1 0 (aT 0)) yT_1 q_12.2 ++ (wX6 ((va_up aT_1 0 (aT 0)) 1) aT_1_1 yT_1_1 gT_1_1 ++ (wX4 hT_14 aT_14 yT_14 q_5.2.2.2.1 ++ (wX0 hT_15 aT_15 yT_15 q_5.2.2.2.2)))))) := Hx_after (isC := [0, 1, 2, 3, 4, 5, 6, 7, 8]) (isR := [9, 10, 11, 12, 13, 14, 15, 16, 17, 18, 19, 20, 21, 22, 23, 24, 25, 26, 27, 28, 29, 30, 31, 32, 33, 34, 35]) (pm := [27, 28, 29, 30, 31, 32, 33, 34, 35, 0, 1, 2, 3, 4, 5, 6, 7, 8, 9, 10, 11, 12, 13, 14, 15, 16, 17, 18, 19, 20, 21, 22, 23, 24, 25, 26]) (wr := wX4 hT_14 aT_14 yT_14 q_5.2.2.2.1 ++ (wX0 hT_15 aT_15 yT_15 q_5.2.2.2.2)) X ⟨rfl, rfl, by decide, by decide, rfl, by decide⟩ ht hB hk hS
          clear hk hS ht hB
          generalize H1 = H at X ⊢
          generalize locs1 = locs at X ⊢
          refine lv_if_eq (tgt := 136) hx hb dX5_readThing_121 (by decide) (fun c => ?_) (fun c => ?_)
          · replace hF := iT c hF
            refine lv_iconst (v := (0 : Int32)) hx hb dX5_readThing_136 (by decide) ?_
            have hq := Option.some.inj hF
            subst hq
            exact rt_z (v := (0 : Int32)) C X (by decide) dX5_readThing_137
          · replace hF := iF c hF
            refine lv_aload_n hx hb dX5_readThing_124 rfl (lv_at hl 5 rfl) ?_
            refine lv_iload_n hx hb dX5_readThing_125 rfl (lv_at hl 3 rfl) ?_
            refine lv_iload hx hb dX5_readThing_126 (lv_at hl 1 rfl) ?_
            refine lv_iload_n hx hb dX5_readThing_128 rfl (lv_at hl 3 rfl) ?_
            refine lv_iload_n hx hb dX5_readThing_129 rfl (lv_at hl 4 rfl) ?_
            obtain ⟨q_14, hc_15, hF⟩ := bnd_some hF
            refine cV_i (As := [.int q_5.1, .int (gI q_9 5), .int q_5.1, .int (gI gT_14 6)]) (rest := []) C X (c_X5_readFormula l D hT aT yT aT_0 yT_0 (va_up aT_1 0 (aT 0)) yT_1 aT_1_1 yT_1_1 hT_15 aT_15 yT_15 n q_5.2.1 gT_0 q_12.2 gT_1_1 q_5.2.2.2.2 q_5.1 (gI q_9 5) q_5.1 (gI gT_14 6) q_14 hc_15 _) (cwV 4 hts (good_V q4_82 q4_84 q0_15 q1_10 q4_85) rfl rfl rfl (by decide +kernel) ⟨Nat.le_of_ble_eq_true rfl, Nat.le_of_ble_eq_true rfl⟩) (va_recv X.1 X.2.1 (ci := 5) (q0 := 0) rfl rfl) (X.1.sub (tys' := tX5 yT ++ (tTP yT_0 ++ (tX7 yT_1 ++ (tX6 yT_1_1 ++ (tX0 yT_15))))) [0, 1, 2, 3, 4, 5, 16, 17, 18, 19, 20, 21, 22, 23, 24, 25, 26, 27, 28, 29, 30] rfl) (X.2.1.sub (ws' := wX5 hT aT yT q_5.2.1 ++ (wTP (aT 0) aT_0 yT_0 gT_0 ++ (wX7 (aT 1) (va_up aT_1 0 (aT 0)) yT_1 q_12.2 ++ (wX6 ((va_up aT_1 0 (aT 0)) 1) aT_1_1 yT_1_1 gT_1_1 ++ (wX0 hT_15 aT_15 yT_15 q_5.2.2.2.2))))) [0, 1, 2, 3, 4, 5, 6, 7, 8, 20, 21, 22, 23, 24, 25, 26, 27, 28, 29, 30, 31, 32, 33, 34, 35] rfl) (X.2.2.1.sub (ws' := wX5 hT aT yT q_5.2.1 ++ (wTP (aT 0) aT_0 yT_0 gT_0 ++ (wX7 (aT 1) (va_up aT_1 0 (aT 0)) yT_1 q_12.2 ++ (wX6 ((va_up aT_1 0 (aT 0)) 1) aT_1_1 yT_1_1 gT_1_1 ++ (wX0 hT_15 aT_15 yT_15 q_5.2.2.2.2))))) [0, 1, 2, 3, 4, 5, 6, 7, 8, 20, 21, 22, 23, 24, 25, 26, 27, 28, 29, 30, 31, 32, 33, 34, 35] (by decide) rfl) (free_of (wC := wX5 hT aT yT q_5.2.1 ++ (wTP (aT 0) aT_0 yT_0 gT_0 ++ (wX7 (aT 1) (va_up aT_1 0 (aT 0)) yT_1 q_12.2 ++ (wX6 ((va_up aT_1 0 (aT 0)) 1) aT_1_1 yT_1_1 gT_1_1 ++ (wX0 hT_15 aT_15 yT_15 q_5.2.2.2.2))))) (isC := [0, 1, 2, 3, 4, 5, 6, 7, 8, 20, 21, 22, 23, 24, 25, 26, 27, 28, 29, 30, 31, 32, 33, 34, 35]) X rfl) hl.1 rfl rfl (Nat.le_of_ble_eq_true rfl) dX5_readThing_130 ⟨Nat.le_of_ble_eq_true rfl, Nat.le_of_ble_eq_true rfl⟩ (fun t H1 locs1 ht hB hk hS => ?_)
            have X : Hx D (tX5 yT ++ (tTP yT_0 ++ (tX7 yT_1 ++ (tX6 yT_1_1 ++ (tX4 yT_14 ++ (tX0 yT_15)))))) A s H1 locs1 (wX5 hT aT yT q_14.2.1 ++ (wTP (aT 0) aT_0 yT_0 gT_0 ++ (wX7 (aT 1) (va_up aT_1 0 (aT 0)) yT_1 q_14.2.2.1 ++ (wX6 ((va_up aT_1 0 (aT 0)) 1) aT_1_1 yT_1_1 gT_1_1 ++ (wX4 hT_14 aT_14 yT_14 q_5.2.2.2.1 ++ (wX0 hT_15 aT_15 yT_15 q_14.2.2.2)))))) := Hx_after (isC := [0, 1, 2, 3, 4, 5, 6, 7, 8, 20, 21, 22, 23, 24, 25, 26, 27, 28, 29, 30, 31, 32, 33, 34, 35]) (isR := [9, 10, 11, 12, 13, 14, 15, 16, 17, 18, 19]) (pm := [11, 12, 13, 14, 15, 16, 17, 18, 19, 0, 1, 2, 3, 4, 5, 6, 7, 8, 9, 10, 20, 21, 22, 23, 24, 25, 26, 27, 28, 29, 30, 31, 32, 33, 34, 35]) (wr := wX4 hT_14 aT_14 yT_14 q_5.2.2.2.1) X ⟨rfl, rfl, by decide, by decide, rfl, by decide⟩ ht hB hk hS
            clear hk hS ht hB
            generalize H1 = H at X ⊢
            generalize locs1 = locs at X ⊢
            refine lv_if_ne (tgt := 138) hx hb dX5_readThing_133 (by decide) (fun c => ?_) (fun c => ?_)
            · replace hF := iF c hF
              refine lv_iload hx hb dX5_readThing_138 (lv_at hl 0 rfl) ?_
              refine lv_istore (lv' := [(7, .int (gI q_5.2.2.2.2 18)), (6, .int (gI q_5.2.2.2.2 18)), (5, .int (gI q_9 5)), (4, .int ((gI q_7.2 4) - (28 : Int32))), (3, .int q_5.1), (2, .int (gI gT_14 6)), (0, .ref hT), (1, .int x0)]) hx hb dX5_readThing_140 hl (by decide) rfl (fun ls hl => ?_)
              refine lv_iload_n hx hb dX5_readThing_142 rfl (lv_at hl 7 rfl) ?_
              refine lv_if_eq (tgt := 189) hx hb dX5_readThing_143 (by decide) (fun c => ?_) (fun c => ?_)
              · replace hF := iT c hF
                exact (k_X5_readThing_189 l D hT aT yT aT_0 yT_0 aT_1 yT_1 aT_1_1 yT_1_1 hT_14 aT_14 yT_14 hT_15 aT_15 yT_15 n) C X (lv_sub hl [6, 7, 4, 3, 1, 0] rfl) hF
              · replace hF := iF c hF
                refine lv_aload_n hx hb dX5_readThing_146 rfl (lv_at hl 6 rfl) ?_
                refine va_get (D := D.1) (ci := 5) (v := .ref (aT 1)) (C := RX5) (T := TX5) (N := 18) hx hb hts wi_X5 hown X.1 X.2.1 0 rfl rfl 1 (by decide) (hts _ q3_52) (fun _ h9 => h9) (fl_get (by decide)) dX5_readThing_147 ?_
                refine va_getN (D := D.1) (ci := 7) (v := .int (gI q_14.2.2.1 5)) (C := RX7) (T := TX7) (N := 12) hx hb hts wi_X7 hown X.1 X.2.1 6 rfl rfl 5 (by decide) (X.2.2.2.2.2.1.use q3_2 rfl) (fun _ h9 => h9) (fl_get (by decide)) dX5_readThing_150 ?_
                refine lv_istore (lv' := [(5, .int (gI q_14.2.2.1 5)), (7, .int (gI q_5.2.2.2.2 18)), (6, .int (gI q_5.2.2.2.2 18)), (4, .int ((gI q_7.2 4) - (28 : Int32))), (3, .int q_5.1), (2, .int (gI gT_14 6)), (0, .ref hT), (1, .int x0)]) hx hb dX5_readThing_153 hl (by decide) rfl (fun ls hl => ?_)
                refine lv_aload_n hx hb dX5_readThing_155 rfl (lv_at hl 6 rfl) ?_
                obtain ⟨h_32, hF⟩ := grd_some hF
                refine va_get (D := D.1) (ci := 5) (v := .ref hT_15) (C := RX5) (T := TX5) (N := 18) hx hb hts wi_X5 hown X.1 X.2.1 0 rfl rfl 15 (by decide) (hts _ q3_66) (fun _ h9 => h9) ((fl_get (by decide)).trans (rf_eq h_32)) dX5_readThing_156 ?_
                refine va_getN (D := D.1) (ci := 0) (v := .int (gI q_14.2.2.2 18)) (C := RX0) (T := TX0) (N := 19) hx hb hts wi_X0 hown X.1 X.2.1 20 rfl rfl 18 (by decide) (X.2.2.2.2.2.1.use q2_27 rfl) (fun _ h9 => h9) (fl_get (by decide)) dX5_readThing_159 ?_
                refine lv_istore (lv' := [(7, .int (gI q_14.2.2.2 18)), (5, .int (gI q_14.2.2.1 5)), (6, .int (gI q_5.2.2.2.2 18)), (4, .int ((gI q_7.2 4) - (28 : Int32))), (3, .int q_5.1), (2, .int (gI gT_14 6)), (0, .ref hT), (1, .int x0)]) hx hb dX5_readThing_162 hl (by decide) rfl (fun ls hl => ?_)
                refine lv_aload_n hx hb dX5_readThing_164 rfl (lv_at hl 6 rfl) ?_
                refine lv_bipush (v := (14 : Int32)) hx hb dX5_readThing_165 (by decide) ?_
                obtain ⟨q_33, hc_34, hF⟩ := bnd_some hF
                refine cV_i (As := [.int (14 : Int32)]) (rest := []) C X (c_X5_expect l D hT aT yT aT_0 yT_0 (va_up aT_1 0 (aT 0)) yT_1 aT_1_1 yT_1_1 n q_14.2.1 gT_0 q_14.2.2.1 gT_1_1 (14 : Int32) q_33 hc_34 _) (cwV 1 hts (good_V q4_78 q4_80 q0_14 q1_10 q4_81) rfl rfl rfl (by decide +kernel) ⟨Nat.le_of_ble_eq_true rfl, Nat.le_of_ble_eq_true rfl⟩) (va_recv X.1 X.2.1 (ci := 5) (q0 := 0) rfl rfl) (X.1.sub (tys' := tX5 yT ++ (tTP yT_0 ++ (tX7 yT_1 ++ (tX6 yT_1_1)))) [0, 1, 2, 3, 4, 5] rfl) (X.2.1.sub (ws' := wX5 hT aT yT q_14.2.1 ++ (wTP (aT 0) aT_0 yT_0 gT_0 ++ (wX7 (aT 1) (va_up aT_1 0 (aT 0)) yT_1 q_14.2.2.1 ++ (wX6 ((va_up aT_1 0 (aT 0)) 1) aT_1_1 yT_1_1 gT_1_1)))) [0, 1, 2, 3, 4, 5, 6, 7, 8] rfl) (X.2.2.1.sub (ws' := wX5 hT aT yT q_14.2.1 ++ (wTP (aT 0) aT_0 yT_0 gT_0 ++ (wX7 (aT 1) (va_up aT_1 0 (aT 0)) yT_1 q_14.2.2.1 ++ (wX6 ((va_up aT_1 0 (aT 0)) 1) aT_1_1 yT_1_1 gT_1_1)))) [0, 1, 2, 3, 4, 5, 6, 7, 8] (by decide) rfl) (free_of (wC := wX5 hT aT yT q_14.2.1 ++ (wTP (aT 0) aT_0 yT_0 gT_0 ++ (wX7 (aT 1) (va_up aT_1 0 (aT 0)) yT_1 q_14.2.2.1 ++ (wX6 ((va_up aT_1 0 (aT 0)) 1) aT_1_1 yT_1_1 gT_1_1)))) (isC := [0, 1, 2, 3, 4, 5, 6, 7, 8]) X rfl) hl.1 rfl rfl (Nat.le_of_ble_eq_true rfl) dX5_readThing_167 ⟨Nat.le_of_ble_eq_true rfl, Nat.le_of_ble_eq_true rfl⟩ (fun t H1 locs1 ht hB hk hS => ?_)
                have X : Hx D (tX5 yT ++ (tTP yT_0 ++ (tX7 yT_1 ++ (tX6 yT_1_1 ++ (tX4 yT_14 ++ (tX0 yT_15)))))) A s H1 locs1 (wX5 hT aT yT q_14.2.1 ++ (wTP (aT 0) aT_0 yT_0 gT_0 ++ (wX7 (aT 1) (va_up aT_1 0 (aT 0)) yT_1 q_33.2 ++ (wX6 ((va_up aT_1 0 (aT 0)) 1) aT_1_1 yT_1_1 gT_1_1 ++ (wX4 hT_14 aT_14 yT_14 q_5.2.2.2.1 ++ (wX0 hT_15 aT_15 yT_15 q_14.2.2.2)))))) := Hx_after (isC := [0, 1, 2, 3, 4, 5, 6, 7, 8]) (isR := [9, 10, 11, 12, 13, 14, 15, 16, 17, 18, 19, 20, 21, 22, 23, 24, 25, 26, 27, 28, 29, 30, 31, 32, 33, 34, 35]) (pm := [27, 28, 29, 30, 31, 32, 33, 34, 35, 0, 1, 2, 3, 4, 5, 6, 7, 8, 9, 10, 11, 12, 13, 14, 15, 16, 17, 18, 19, 20, 21, 22, 23, 24, 25, 26]) (wr := wX4 hT_14 aT_14 yT_14 q_5.2.2.2.1 ++ (wX0 hT_15 aT_15 yT_15 q_14.2.2.2)) X ⟨rfl, rfl, by decide, by decide, rfl, by decide⟩ ht hB hk hS
                clear hk hS ht hB
                generalize H1 = H at X ⊢
                generalize locs1 = locs at X ⊢
                refine lv_if_eq (tgt := 187) hx hb dX5_readThing_170 (by decide) (fun c => ?_) (fun c => ?_)
                · replace hF := iT c hF
                  refine lv_iconst (v := (0 : Int32)) hx hb dX5_readThing_187 (by decide) ?_
                  have hq := Option.some.inj hF
                  subst hq
                  exact rt_z (v := (0 : Int32)) C X (by decide) dX5_readThing_188
                · replace hF := iF c hF
                  refine lv_aload_n hx hb dX5_readThing_173 rfl (lv_at hl 6 rfl) ?_
                  refine lv_iload_n hx hb dX5_readThing_174 rfl (lv_at hl 4 rfl) ?_
                  refine lv_iload hx hb dX5_readThing_175 (lv_at hl 1 rfl) ?_
                  refine lv_bipush (v := (40 : Int32)) hx hb dX5_readThing_177 (by decide) ?_
                  refine lv_bipush (v := (8 : Int32)) hx hb dX5_readThing_179 (by decide) ?_
                  obtain ⟨q_35, hc_36, hF⟩ := bnd_some hF
                  refine cV_i (As := [.int q_5.1, .int (gI q_14.2.2.1 5), .int (40 : Int32), .int (8 : Int32)]) (rest := []) C X (c_X5_readFormula l D hT aT yT aT_0 yT_0 (va_up aT_1 0 (aT 0)) yT_1 aT_1_1 yT_1_1 hT_15 aT_15 yT_15 n q_14.2.1 gT_0 q_33.2 gT_1_1 q_14.2.2.2 q_5.1 (gI q_14.2.2.1 5) (40 : Int32) (8 : Int32) q_35 hc_36 _) (cwV 4 hts (good_V q4_82 q4_84 q0_15 q1_10 q4_85) rfl rfl rfl (by decide +kernel) ⟨Nat.le_of_ble_eq_true rfl, Nat.le_of_ble_eq_true rfl⟩) (va_recv X.1 X.2.1 (ci := 5) (q0 := 0) rfl rfl) (X.1.sub (tys' := tX5 yT ++ (tTP yT_0 ++ (tX7 yT_1 ++ (tX6 yT_1_1 ++ (tX0 yT_15))))) [0, 1, 2, 3, 4, 5, 16, 17, 18, 19, 20, 21, 22, 23, 24, 25, 26, 27, 28, 29, 30] rfl) (X.2.1.sub (ws' := wX5 hT aT yT q_14.2.1 ++ (wTP (aT 0) aT_0 yT_0 gT_0 ++ (wX7 (aT 1) (va_up aT_1 0 (aT 0)) yT_1 q_33.2 ++ (wX6 ((va_up aT_1 0 (aT 0)) 1) aT_1_1 yT_1_1 gT_1_1 ++ (wX0 hT_15 aT_15 yT_15 q_14.2.2.2))))) [0, 1, 2, 3, 4, 5, 6, 7, 8, 20, 21, 22, 23, 24, 25, 26, 27, 28, 29, 30, 31, 32, 33, 34, 35] rfl) (X.2.2.1.sub (ws' := wX5 hT aT yT q_14.2.1 ++ (wTP (aT 0) aT_0 yT_0 gT_0 ++ (wX7 (aT 1) (va_up aT_1 0 (aT 0)) yT_1 q_33.2 ++ (wX6 ((va_up aT_1 0 (aT 0)) 1) aT_1_1 yT_1_1 gT_1_1 ++ (wX0 hT_15 aT_15 yT_15 q_14.2.2.2))))) [0, 1, 2, 3, 4, 5, 6, 7, 8, 20, 21, 22, 23, 24, 25, 26, 27, 28, 29, 30, 31, 32, 33, 34, 35] (by decide) rfl) (free_of (wC := wX5 hT aT yT q_14.2.1 ++ (wTP (aT 0) aT_0 yT_0 gT_0 ++ (wX7 (aT 1) (va_up aT_1 0 (aT 0)) yT_1 q_33.2 ++ (wX6 ((va_up aT_1 0 (aT 0)) 1) aT_1_1 yT_1_1 gT_1_1 ++ (wX0 hT_15 aT_15 yT_15 q_14.2.2.2))))) (isC := [0, 1, 2, 3, 4, 5, 6, 7, 8, 20, 21, 22, 23, 24, 25, 26, 27, 28, 29, 30, 31, 32, 33, 34, 35]) X rfl) hl.1 rfl rfl (Nat.le_of_ble_eq_true rfl) dX5_readThing_181 ⟨Nat.le_of_ble_eq_true rfl, Nat.le_of_ble_eq_true rfl⟩ (fun t H1 locs1 ht hB hk hS => ?_)
                  have X : Hx D (tX5 yT ++ (tTP yT_0 ++ (tX7 yT_1 ++ (tX6 yT_1_1 ++ (tX4 yT_14 ++ (tX0 yT_15)))))) A s H1 locs1 (wX5 hT aT yT q_35.2.1 ++ (wTP (aT 0) aT_0 yT_0 gT_0 ++ (wX7 (aT 1) (va_up aT_1 0 (aT 0)) yT_1 q_35.2.2.1 ++ (wX6 ((va_up aT_1 0 (aT 0)) 1) aT_1_1 yT_1_1 gT_1_1 ++ (wX4 hT_14 aT_14 yT_14 q_5.2.2.2.1 ++ (wX0 hT_15 aT_15 yT_15 q_35.2.2.2)))))) := Hx_after (isC := [0, 1, 2, 3, 4, 5, 6, 7, 8, 20, 21, 22, 23, 24, 25, 26, 27, 28, 29, 30, 31, 32, 33, 34, 35]) (isR := [9, 10, 11, 12, 13, 14, 15, 16, 17, 18, 19]) (pm := [11, 12, 13, 14, 15, 16, 17, 18, 19, 0, 1, 2, 3, 4, 5, 6, 7, 8, 9, 10, 20, 21, 22, 23, 24, 25, 26, 27, 28, 29, 30, 31, 32, 33, 34, 35]) (wr := wX4 hT_14 aT_14 yT_14 q_5.2.2.2.1) X ⟨rfl, rfl, by decide, by decide, rfl, by decide⟩ ht hB hk hS
                  clear hk hS ht hB
                  generalize H1 = H at X ⊢
                  generalize locs1 = locs at X ⊢
                  refine lv_if_ne (tgt := 189) hx hb dX5_readThing_184 (by decide) (fun c => ?_) (fun c => ?_)
                  · replace hF := iF c hF
                    exact (k_X5_readThing_189 l D hT aT yT aT_0 yT_0 aT_1 yT_1 aT_1_1 yT_1_1 hT_14 aT_14 yT_14 hT_15 aT_15 yT_15 n) C X (lv_sub hl [6, 7, 4, 3, 2, 0] rfl) hF
                  · replace hF := iT c hF
                    refine lv_iconst (v := (0 : Int32)) hx hb dX5_readThing_187 (by decide) ?_
                    have hq := Option.some.inj hF
                    subst hq
                    exact rt_z (v := (0 : Int32)) C X (by decide) dX5_readThing_188
            · replace hF := iT c hF
              refine lv_iconst (v := (0 : Int32)) hx hb dX5_readThing_136 (by decide) ?_
              have hq := Option.some.inj hF
              subst hq
              exact rt_z (v := (0 : Int32)) C X (by decide) dX5_readThing_137
        · replace hF := iF c hF
          refine lv_iconst (v := (0 : Int32)) hx hb dX5_readThing_76 (by decide) ?_
          have hq := Option.some.inj hF
          subst hq
          exact rt_z (v := (0 : Int32)) C X (by decide) dX5_readThing_77
  · replace hF := iF c hF
    refine lv_iconst (v := (0 : Int32)) hx hb dX5_readThing_18 (by decide) ?_
    have hq := Option.some.inj hF
    subst hq
    exact rt_z (v := (0 : Int32)) C X (by decide) dX5_readThing_19

/-! ### X5_readBell -/
theorem dX5_readBell_0 : decode cX5_readBell 0 = .ok (.aload_n 0, 1) := by decide +kernel
theorem dX5_readBell_1 : decode cX5_readBell 1 = .ok (.getfield 77, 3) := by decide +kernel
theorem dX5_readBell_4 : decode cX5_readBell 4 = .ok (.invokevirtual 145, 3) := by decide +kernel
theorem dX5_readBell_7 : decode cX5_readBell 7 = .ok (.aload_n 0, 1) := by decide +kernel
theorem dX5_readBell_8 : decode cX5_readBell 8 = .ok (.getfield 77, 3) := by decide +kernel
theorem dX5_readBell_11 : decode cX5_readBell 11 = .ok (.getfield 100, 3) := by decide +kernel
theorem dX5_readBell_14 : decode cX5_readBell 14 = .ok (.iconst 2, 1) := by decide +kernel
theorem dX5_readBell_15 : decode cX5_readBell 15 = .ok (.if_icmp .eq 5, 3) := by decide +kernel
theorem dX5_readBell_18 : decode cX5_readBell 18 = .ok (.iconst 0, 1) := by decide +kernel
theorem dX5_readBell_19 : decode cX5_readBell 19 = .ok (.ireturn, 1) := by decide +kernel
theorem dX5_readBell_20 : decode cX5_readBell 20 = .ok (.aload_n 0, 1) := by decide +kernel
theorem dX5_readBell_21 : decode cX5_readBell 21 = .ok (.bipush 40, 2) := by decide +kernel
theorem dX5_readBell_23 : decode cX5_readBell 23 = .ok (.aload_n 0, 1) := by decide +kernel
theorem dX5_readBell_24 : decode cX5_readBell 24 = .ok (.getfield 61, 3) := by decide +kernel
theorem dX5_readBell_27 : decode cX5_readBell 27 = .ok (.getfield 178, 3) := by decide +kernel
theorem dX5_readBell_30 : decode cX5_readBell 30 = .ok (.bipush 12, 2) := by decide +kernel
theorem dX5_readBell_32 : decode cX5_readBell 32 = .ok (.invokevirtual 164, 3) := by decide +kernel
theorem dX5_readBell_35 : decode cX5_readBell 35 = .ok (.istore_n 1, 1) := by decide +kernel
theorem dX5_readBell_36 : decode cX5_readBell 36 = .ok (.iload_n 1, 1) := by decide +kernel
theorem dX5_readBell_37 : decode cX5_readBell 37 = .ok (.iconst (-1), 1) := by decide +kernel
theorem dX5_readBell_38 : decode cX5_readBell 38 = .ok (.if_icmp .ne 7, 3) := by decide +kernel
theorem dX5_readBell_41 : decode cX5_readBell 41 = .ok (.iconst (-1), 1) := by decide +kernel
theorem dX5_readBell_42 : decode cX5_readBell 42 = .ok (.goto 7, 3) := by decide +kernel
theorem dX5_readBell_45 : decode cX5_readBell 45 = .ok (.bipush 40, 2) := by decide +kernel
theorem dX5_readBell_47 : decode cX5_readBell 47 = .ok (.iload_n 1, 1) := by decide +kernel
theorem dX5_readBell_48 : decode cX5_readBell 48 = .ok (.iadd, 1) := by decide +kernel
theorem dX5_readBell_49 : decode cX5_readBell 49 = .ok (.istore_n 2, 1) := by decide +kernel
theorem dX5_readBell_50 : decode cX5_readBell 50 = .ok (.aload_n 0, 1) := by decide +kernel
theorem dX5_readBell_51 : decode cX5_readBell 51 = .ok (.getfield 77, 3) := by decide +kernel
theorem dX5_readBell_54 : decode cX5_readBell 54 = .ok (.getfield 114, 3) := by decide +kernel
theorem dX5_readBell_57 : decode cX5_readBell 57 = .ok (.istore_n 3, 1) := by decide +kernel
theorem dX5_readBell_58 : decode cX5_readBell 58 = .ok (.aload_n 0, 1) := by decide +kernel
theorem dX5_readBell_59 : decode cX5_readBell 59 = .ok (.getfield 71, 3) := by decide +kernel
theorem dX5_readBell_62 : decode cX5_readBell 62 = .ok (.getfield 172, 3) := by decide +kernel
theorem dX5_readBell_65 : decode cX5_readBell 65 = .ok (.istore 4, 2) := by decide +kernel
theorem dX5_readBell_67 : decode cX5_readBell 67 = .ok (.aload_n 0, 1) := by decide +kernel
theorem dX5_readBell_68 : decode cX5_readBell 68 = .ok (.bipush 15, 2) := by decide +kernel
theorem dX5_readBell_70 : decode cX5_readBell 70 = .ok (.invokevirtual 168, 3) := by decide +kernel
theorem dX5_readBell_73 : decode cX5_readBell 73 = .ok (.ifCond .eq 16, 3) := by decide +kernel
theorem dX5_readBell_76 : decode cX5_readBell 76 = .ok (.aload_n 0, 1) := by decide +kernel
theorem dX5_readBell_77 : decode cX5_readBell 77 = .ok (.iload_n 2, 1) := by decide +kernel
theorem dX5_readBell_78 : decode cX5_readBell 78 = .ok (.iload_n 3, 1) := by decide +kernel
theorem dX5_readBell_79 : decode cX5_readBell 79 = .ok (.bipush 40, 2) := by decide +kernel
theorem dX5_readBell_81 : decode cX5_readBell 81 = .ok (.bipush 8, 2) := by decide +kernel
theorem dX5_readBell_83 : decode cX5_readBell 83 = .ok (.invokevirtual 132, 3) := by decide +kernel
theorem dX5_readBell_86 : decode cX5_readBell 86 = .ok (.ifCond .ne 5, 3) := by decide +kernel
theorem dX5_readBell_89 : decode cX5_readBell 89 = .ok (.iconst 0, 1) := by decide +kernel
theorem dX5_readBell_90 : decode cX5_readBell 90 = .ok (.ireturn, 1) := by decide +kernel
theorem dX5_readBell_91 : decode cX5_readBell 91 = .ok (.iload_n 2, 1) := by decide +kernel
theorem dX5_readBell_92 : decode cX5_readBell 92 = .ok (.iconst (-1), 1) := by decide +kernel
theorem dX5_readBell_93 : decode cX5_readBell 93 = .ok (.if_icmp .eq 51, 3) := by decide +kernel
theorem dX5_readBell_96 : decode cX5_readBell 96 = .ok (.aload_n 0, 1) := by decide +kernel
theorem dX5_readBell_97 : decode cX5_readBell 97 = .ok (.getfield 61, 3) := by decide +kernel
theorem dX5_readBell_100 : decode cX5_readBell 100 = .ok (.getfield 175, 3) := by decide +kernel
theorem dX5_readBell_103 : decode cX5_readBell 103 = .ok (.aload_n 0, 1) := by decide +kernel
theorem dX5_readBell_104 : decode cX5_readBell 104 = .ok (.getfield 61, 3) := by decide +kernel
theorem dX5_readBell_107 : decode cX5_readBell 107 = .ok (.getfield 161, 3) := by decide +kernel
theorem dX5_readBell_110 : decode cX5_readBell 110 = .ok (.aload_n 0, 1) := by decide +kernel
theorem dX5_readBell_111 : decode cX5_readBell 111 = .ok (.getfield 61, 3) := by decide +kernel
theorem dX5_readBell_114 : decode cX5_readBell 114 = .ok (.getfield 178, 3) := by decide +kernel
theorem dX5_readBell_117 : decode cX5_readBell 117 = .ok (.iadd, 1) := by decide +kernel
theorem dX5_readBell_118 : decode cX5_readBell 118 = .ok (.iload_n 2, 1) := by decide +kernel
theorem dX5_readBell_119 : decode cX5_readBell 119 = .ok (.iastore, 1) := by decide +kernel
theorem dX5_readBell_120 : decode cX5_readBell 120 = .ok (.aload_n 0, 1) := by decide +kernel
theorem dX5_readBell_121 : decode cX5_readBell 121 = .ok (.getfield 61, 3) := by decide +kernel
theorem dX5_readBell_124 : decode cX5_readBell 124 = .ok (.getfield 191, 3) := by decide +kernel
theorem dX5_readBell_127 : decode cX5_readBell 127 = .ok (.iload_n 2, 1) := by decide +kernel
theorem dX5_readBell_128 : decode cX5_readBell 128 = .ok (.iload 4, 2) := by decide +kernel
theorem dX5_readBell_130 : decode cX5_readBell 130 = .ok (.iastore, 1) := by decide +kernel
theorem dX5_readBell_131 : decode cX5_readBell 131 = .ok (.aload_n 0, 1) := by decide +kernel
theorem dX5_readBell_132 : decode cX5_readBell 132 = .ok (.getfield 61, 3) := by decide +kernel
theorem dX5_readBell_135 : decode cX5_readBell 135 = .ok (.dup, 1) := by decide +kernel
theorem dX5_readBell_136 : decode cX5_readBell 136 = .ok (.getfield 178, 3) := by decide +kernel
theorem dX5_readBell_139 : decode cX5_readBell 139 = .ok (.iconst 1, 1) := by decide +kernel
theorem dX5_readBell_140 : decode cX5_readBell 140 = .ok (.iadd, 1) := by decide +kernel
theorem dX5_readBell_141 : decode cX5_readBell 141 = .ok (.putfield 178, 3) := by decide +kernel
theorem dX5_readBell_144 : decode cX5_readBell 144 = .ok (.aload_n 0, 1) := by decide +kernel
theorem dX5_readBell_145 : decode cX5_readBell 145 = .ok (.bipush 41, 2) := by decide +kernel
theorem dX5_readBell_147 : decode cX5_readBell 147 = .ok (.invokevirtual 168, 3) := by decide +kernel
theorem dX5_readBell_150 : decode cX5_readBell 150 = .ok (.ireturn, 1) := by decide +kernel
abbrev R_X5_readBell : Room := ({ frames := 8, cells := 0, slots := 0, locals := 202 } : Room)
def b_X5_readBell_144 (n : Nat) (hT_14 : Nat) (hT_15 : Nat) (gT : Gs) (gT_0 : Gs) (gT_1 : Gs) (gT_1_1 : Gs) (gT_14 : Gs) (gT_15 : Gs) : Option (Int32 × Gs × Gs × Gs × Gs) :=
  bnd (f_X5_expect n gT gT_0 gT_1 gT_1_1 (41 : Int32)) (fun q_11 => grd (zB q_11.1) (some (q_11.1, gT, q_11.2, gT_14, gT_15)))
def b_X5_readBell_49 (n : Nat) (hT_14 : Nat) (hT_15 : Nat) (gT : Gs) (gT_0 : Gs) (gT_1 : Gs) (gT_1_1 : Gs) (gT_14 : Gs) (gT_15 : Gs) (s0 : Int32) : Option (Int32 × Gs × Gs × Gs × Gs) :=
  grd (rEq (gR gT 15) hT_15) (bnd (f_X5_expect n gT gT_0 gT_1 gT_1_1 (15 : Int32)) (fun q_7 => if q_7.1 = 0 then (some ((0 : Int32), gT, q_7.2, gT_14, gT_15)) else (bnd (f_X5_readFormula n hT_15 gT gT_0 q_7.2 gT_1_1 gT_15 s0 (gI gT_1 5) (40 : Int32) (8 : Int32)) (fun q_9 => if q_9.1 = 0 then (some ((0 : Int32), q_9.2.1, q_9.2.2.1, gT_14, q_9.2.2.2)) else (if s0 = (-1 : Int32) then (b_X5_readBell_144 n hT_14 hT_15 q_9.2.1 gT_0 q_9.2.2.1 gT_1_1 gT_14 q_9.2.2.2) else (grd (rEq (gR q_9.2.1 14) hT_14) (grd (rEq (gR q_9.2.1 14) hT_14) (grd (rEq (gR q_9.2.1 14) hT_14) (grd (inB ((gI gT_14 4) + (gI gT_14 5)) 52) (grd (rEq (gR q_9.2.1 14) hT_14) (grd (inB s0 52) (grd (rEq (gR q_9.2.1 14) hT_14) (b_X5_readBell_144 n hT_14 hT_15 q_9.2.1 gT_0 q_9.2.2.1 gT_1_1 (sI (sIA (sIA gT_14 11 (upd (gIA gT_14 11) ((gI gT_14 4) + (gI gT_14 5)).toNatClampNeg s0)) 10 (upd (gIA gT_14 10) s0.toNatClampNeg (gI gT_15 18))) 5 ((gI gT_14 5) + (1 : Int32))) q_9.2.2.2)))))))))))))
def f_X5_readBell (n : Nat) (hT_14 : Nat) (hT_15 : Nat) (gT : Gs) (gT_0 : Gs) (gT_1 : Gs) (gT_1_1 : Gs) (gT_14 : Gs) (gT_15 : Gs) : Option (Int32 × Gs × Gs × Gs × Gs) :=
  bnd (f_X7_advance n gT_1 gT_0 gT_1_1) (fun q_1 => if (gI q_1 4) = (2 : Int32) then (grd (rEq (gR gT 14) hT_14) (bnd (f_X5_tell n hT_14 hT_15 gT gT_0 q_1 gT_1_1 gT_14 gT_15 (40 : Int32) (gI gT_14 5) (12 : Int32)) (fun q_4 => if q_4.1 = (-1 : Int32) then (b_X5_readBell_49 n hT_14 hT_15 q_4.2.1 gT_0 q_4.2.2.1 gT_1_1 q_4.2.2.2.1 q_4.2.2.2.2 (-1 : Int32)) else (b_X5_readBell_49 n hT_14 hT_15 q_4.2.1 gT_0 q_4.2.2.1 gT_1_1 q_4.2.2.2.1 q_4.2.2.2.2 ((40 : Int32) + q_4.1))))) else (some ((0 : Int32), gT, q_1, gT_14, gT_15)))
def S_X5_readBell_144 (l : Launch) (D : Dx) (hT : Nat) (aT : Nat → Nat) (yT : Nat → ClassId) (aT_0 : Nat → Nat) (yT_0 : Nat → ClassId) (aT_1 : Nat → Nat) (yT_1 : Nat → ClassId) (aT_1_1 : Nat → Nat) (yT_1_1 : Nat → ClassId) (hT_14 : Nat) (aT_14 : Nat → Nat) (yT_14 : Nat → ClassId) (hT_15 : Nat) (aT_15 : Nat → Nat) (yT_15 : Nat → ClassId) (fn : Gs → Gs → Gs → Gs → Gs → Gs → Option (Int32 × Gs × Gs × Gs × Gs)) : Prop :=
  ∀ {p : Program} {e : Env} {s : State} {m : MethodId} {args : Array Value} {below : List Frame} {meth : Method} {c : Code} {H : Heap} {locs : List Loc} {A : Nat → Prop} {ls : Array Slot} {gT : Gs} {gT_0 : Gs} {gT_1 : Gs} {gT_1_1 : Gs} {gT_14 : Gs} {gT_15 : Gs} {q : Int32 × Gs × Gs × Gs × Gs}, Cx p s m args meth c cX5_readBell (some .boolean) 5 RX5 lw_all → Hx D (tX5 yT ++ (tTP yT_0 ++ (tX7 yT_1 ++ (tX6 yT_1_1 ++ (tX4 yT_14 ++ (tX0 yT_15)))))) A s H locs (wX5 hT aT yT gT ++ (wTP (aT 0) aT_0 yT_0 gT_0 ++ (wX7 (aT 1) (va_up aT_1 0 (aT 0)) yT_1 gT_1 ++ (wX6 ((va_up aT_1 0 (aT 0)) 1) aT_1_1 yT_1_1 gT_1_1 ++ (wX4 hT_14 aT_14 yT_14 gT_14 ++ (wX0 hT_15 aT_15 yT_15 gT_15)))))) → lv_has ls 5 [(0, .ref hT)] → fn gT gT_0 gT_1 gT_1_1 gT_14 gT_15 = some q → W p l e R_X5_readBell s m args below meth c H locs 0 0 (MQ below (QI D A (wX5 hT aT yT q.2.1 ++ (wTP (aT 0) aT_0 yT_0 gT_0 ++ (wX7 (aT 1) (va_up aT_1 0 (aT 0)) yT_1 q.2.2.1 ++ (wX6 ((va_up aT_1 0 (aT 0)) 1) aT_1_1 yT_1_1 gT_1_1 ++ (wX4 hT_14 aT_14 yT_14 q.2.2.2.1 ++ (wX0 hT_15 aT_15 yT_15 q.2.2.2.2)))))) q.1) args s 0 0 A) (F0 m 144 ls [])
def S_X5_readBell_49 (l : Launch) (D : Dx) (hT : Nat) (aT : Nat → Nat) (yT : Nat → ClassId) (aT_0 : Nat → Nat) (yT_0 : Nat → ClassId) (aT_1 : Nat → Nat) (yT_1 : Nat → ClassId) (aT_1_1 : Nat → Nat) (yT_1_1 : Nat → ClassId) (hT_14 : Nat) (aT_14 : Nat → Nat) (yT_14 : Nat → ClassId) (hT_15 : Nat) (aT_15 : Nat → Nat) (yT_15 : Nat → ClassId) (fn : Gs → Gs → Gs → Gs → Gs → Gs → Int32 → Option (Int32 × Gs × Gs × Gs × Gs)) : Prop :=
  ∀ {p : Program} {e : Env} {s : State} {m : MethodId} {args : Array Value} {below : List Frame} {meth : Method} {c : Code} {H : Heap} {locs : List Loc} {A : Nat → Prop} {ls : Array Slot} {gT : Gs} {gT_0 : Gs} {gT_1 : Gs} {gT_1_1 : Gs} {gT_14 : Gs} {gT_15 : Gs} {s0 : Int32} {q : Int32 × Gs × Gs × Gs × Gs}, Cx p s m args meth c cX5_readBell (some .boolean) 5 RX5 lw_all → Hx D (tX5 yT ++ (tTP yT_0 ++ (tX7 yT_1 ++ (tX6 yT_1_1 ++ (tX4 yT_14 ++ (tX0 yT_15)))))) A s H locs (wX5 hT aT yT gT ++ (wTP (aT 0) aT_0 yT_0 gT_0 ++ (wX7 (aT 1) (va_up aT_1 0 (aT 0)) yT_1 gT_1 ++ (wX6 ((va_up aT_1 0 (aT 0)) 1) aT_1_1 yT_1_1 gT_1_1 ++ (wX4 hT_14 aT_14 yT_14 gT_14 ++ (wX0 hT_15 aT_15 yT_15 gT_15)))))) → lv_has ls 5 [(0, .ref hT)] → fn gT gT_0 gT_1 gT_1_1 gT_14 gT_15 s0 = some q → W p l e R_X5_readBell s m args below meth c H locs 0 0 (MQ below (QI D A (wX5 hT aT yT q.2.1 ++ (wTP (aT 0) aT_0 yT_0 gT_0 ++ (wX7 (aT 1) (va_up aT_1 0 (aT 0)) yT_1 q.2.2.1 ++ (wX6 ((va_up aT_1 0 (aT 0)) 1) aT_1_1 yT_1_1 gT_1_1 ++ (wX4 hT_14 aT_14 yT_14 q.2.2.2.1 ++ (wX0 hT_15 aT_15 yT_15 q.2.2.2.2)))))) q.1) args s 0 0 A) (F0 m 49 ls [.int s0])
set_option maxHeartbeats 4000000 in
set_option maxRecDepth 100000 in
theorem k_X5_readBell_144 (l : Launch) (D : Dx) (hT : Nat) (aT : Nat → Nat) (yT : Nat → ClassId) (aT_0 : Nat → Nat) (yT_0 : Nat → ClassId) (aT_1 : Nat → Nat) (yT_1 : Nat → ClassId) (aT_1_1 : Nat → Nat) (yT_1_1 : Nat → ClassId) (hT_14 : Nat) (aT_14 : Nat → Nat) (yT_14 : Nat → ClassId) (hT_15 : Nat) (aT_15 : Nat → Nat) (yT_15 : Nat → ClassId) (n : Nat) : S_X5_readBell_144 l D hT aT yT aT_0 yT_0 aT_1 yT_1 aT_1_1 yT_1_1 hT_14 aT_14 yT_14 hT_15 aT_15 yT_15 (b_X5_readBell_144 n hT_14 hT_15) := by
  intro p e s m args below meth c H locs A ls gT gT_0 gT_1 gT_1_1 gT_14 gT_15 q C X hl hF
  obtain ⟨hx, hb, hr, hml, hown, hts, hlk⟩ := id C
  unfold b_X5_readBell_144 at hF
  refine lv_aload_n hx hb dX5_readBell_144 rfl (lv_at hl 0 rfl) ?_
  refine lv_bipush (v := (41 : Int32)) hx hb dX5_readBell_145 (by decide) ?_
  obtain ⟨q_11, hc_12, hF⟩ := bnd_some hF
  refine cV_i (As := [.int (41 : Int32)]) (rest := []) C X (c_X5_expect l D hT aT yT aT_0 yT_0 (va_up aT_1 0 (aT 0)) yT_1 aT_1_1 yT_1_1 n gT gT_0 gT_1 gT_1_1 (41 : Int32) q_11 hc_12 _) (cwV 1 hts (good_V q4_78 q4_80 q0_14 q1_10 q4_81) rfl rfl rfl (by decide +kernel) ⟨Nat.le_of_ble_eq_true rfl, Nat.le_of_ble_eq_true rfl⟩) (va_recv X.1 X.2.1 (ci := 5) (q0 := 0) rfl rfl) (X.1.sub (tys' := tX5 yT ++ (tTP yT_0 ++ (tX7 yT_1 ++ (tX6 yT_1_1)))) [0, 1, 2, 3, 4, 5] rfl) (X.2.1.sub (ws' := wX5 hT aT yT gT ++ (wTP (aT 0) aT_0 yT_0 gT_0 ++ (wX7 (aT 1) (va_up aT_1 0 (aT 0)) yT_1 gT_1 ++ (wX6 ((va_up aT_1 0 (aT 0)) 1) aT_1_1 yT_1_1 gT_1_1)))) [0, 1, 2, 3, 4, 5, 6, 7, 8] rfl) (X.2.2.1.sub (ws' := wX5 hT aT yT gT ++ (wTP (aT 0) aT_0 yT_0 gT_0 ++ (wX7 (aT 1) (va_up aT_1 0 (aT 0)) yT_1 gT_1 ++ (wX6 ((va_up aT_1 0 (aT 0)) 1) aT_1_1 yT_1_1 gT_1_1)))) [0, 1, 2, 3, 4, 5, 6, 7, 8] (by decide) rfl) (free_of (wC := wX5 hT aT yT gT ++ (wTP (aT 0) aT_0 yT_0 gT_0 ++ (wX7 (aT 1) (va_up aT_1 0 (aT 0)) yT_1 gT_1 ++ (wX6 ((va_up aT_1 0 (aT 0)) 1) aT_1_1 yT_1_1 gT_1_1)))) (isC := [0, 1, 2, 3, 4, 5, 6, 7, 8]) X rfl) hl.1 rfl rfl (Nat.le_of_ble_eq_true rfl) dX5_readBell_147 ⟨Nat.le_of_ble_eq_true rfl, Nat.le_of_ble_eq_true rfl⟩ (fun t H1 locs1 ht hB hk hS => ?_)
  have X : Hx D (tX5 yT ++ (tTP yT_0 ++ (tX7 yT_1 ++ (tX6 yT_1_1 ++ (tX4 yT_14 ++ (tX0 yT_15)))))) A s H1 locs1 (wX5 hT aT yT gT ++ (wTP (aT 0) aT_0 yT_0 gT_0 ++ (wX7 (aT 1) (va_up aT_1 0 (aT 0)) yT_1 q_11.2 ++ (wX6 ((va_up aT_1 0 (aT 0)) 1) aT_1_1 yT_1_1 gT_1_1 ++ (wX4 hT_14 aT_14 yT_14 gT_14 ++ (wX0 hT_15 aT_15 yT_15 gT_15)))))) := Hx_after (isC := [0, 1, 2, 3, 4, 5, 6, 7, 8]) (isR := [9, 10, 11, 12, 13, 14, 15, 16, 17, 18, 19, 20, 21, 22, 23, 24, 25, 26, 27, 28, 29, 30, 31, 32, 33, 34, 35]) (pm := [27, 28, 29, 30, 31, 32, 33, 34, 35, 0, 1, 2, 3, 4, 5, 6, 7, 8, 9, 10, 11, 12, 13, 14, 15, 16, 17, 18, 19, 20, 21, 22, 23, 24, 25, 26]) (wr := wX4 hT_14 aT_14 yT_14 gT_14 ++ (wX0 hT_15 aT_15 yT_15 gT_15)) X ⟨rfl, rfl, by decide, by decide, rfl, by decide⟩ ht hB hk hS
  clear hk hS ht hB
  generalize H1 = H at X ⊢
  generalize locs1 = locs at X ⊢
  obtain ⟨h_13, hF⟩ := grd_some hF
  have hq := Option.some.inj hF
  subst hq
  exact rt_z (v := q_11.1) C X (zB_n h_13) dX5_readBell_150
set_option maxHeartbeats 4000000 in
set_option maxRecDepth 100000 in
theorem k_X5_readBell_49 (l : Launch) (D : Dx) (hT : Nat) (aT : Nat → Nat) (yT : Nat → ClassId) (aT_0 : Nat → Nat) (yT_0 : Nat → ClassId) (aT_1 : Nat → Nat) (yT_1 : Nat → ClassId) (aT_1_1 : Nat → Nat) (yT_1_1 : Nat → ClassId) (hT_14 : Nat) (aT_14 : Nat → Nat) (yT_14 : Nat → ClassId) (hT_15 : Nat) (aT_15 : Nat → Nat) (yT_15 : Nat → ClassId) (n : Nat) : S_X5_readBell_49 l D hT aT yT aT_0 yT_0 aT_1 yT_1 aT_1_1 yT_1_1 hT_14 aT_14 yT_14 hT_15 aT_15 yT_15 (b_X5_readBell_49 n hT_14 hT_15) := by
  intro p e s m args below meth c H locs A ls gT gT_0 gT_1 gT_1_1 gT_14 gT_15 s0 q C X hl hF
  obtain ⟨hx, hb, hr, hml, hown, hts, hlk⟩ := id C
  unfold b_X5_readBell_49 at hF
  refine lv_istore_n (lv' := [(2, .int s0), (0, .ref hT)]) hx hb dX5_readBell_49 rfl hl (by decide) rfl (fun ls hl => ?_)
  refine lv_aload_n hx hb dX5_readBell_50 rfl (lv_at hl 1 rfl) ?_
  refine va_get (D := D.1) (ci := 5) (v := .ref (aT 1)) (C := RX5) (T := TX5) (N := 18) hx hb hts wi_X5 hown X.1 X.2.1 0 rfl rfl 1 (by decide) (hts _ q3_52) (fun _ h9 => h9) (fl_get (by decide)) dX5_readBell_51 ?_
  refine va_getN (D := D.1) (ci := 7) (v := .int (gI gT_1 5)) (C := RX7) (T := TX7) (N := 12) hx hb hts wi_X7 hown X.1 X.2.1 6 rfl rfl 5 (by decide) (X.2.2.2.2.2.1.use q3_2 rfl) (fun _ h9 => h9) (fl_get (by decide)) dX5_readBell_54 ?_
  refine lv_istore_n (lv' := [(3, .int (gI gT_1 5)), (2, .int s0), (0, .ref hT)]) hx hb dX5_readBell_57 rfl hl (by decide) rfl (fun ls hl => ?_)
  refine lv_aload_n hx hb dX5_readBell_58 rfl (lv_at hl 2 rfl) ?_
  obtain ⟨h_6, hF⟩ := grd_some hF
  refine va_get (D := D.1) (ci := 5) (v := .ref hT_15) (C := RX5) (T := TX5) (N := 18) hx hb hts wi_X5 hown X.1 X.2.1 0 rfl rfl 15 (by decide) (hts _ q3_66) (fun _ h9 => h9) ((fl_get (by decide)).trans (rf_eq h_6)) dX5_readBell_59 ?_
  refine va_getN (D := D.1) (ci := 0) (v := .int (gI gT_15 18)) (C := RX0) (T := TX0) (N := 19) hx hb hts wi_X0 hown X.1 X.2.1 20 rfl rfl 18 (by decide) (X.2.2.2.2.2.1.use q2_27 rfl) (fun _ h9 => h9) (fl_get (by decide)) dX5_readBell_62 ?_
  refine lv_istore (lv' := [(4, .int (gI gT_15 18)), (3, .int (gI gT_1 5)), (2, .int s0), (0, .ref hT)]) hx hb dX5_readBell_65 hl (by decide) rfl (fun ls hl => ?_)
  refine lv_aload_n hx hb dX5_readBell_67 rfl (lv_at hl 3 rfl) ?_
  refine lv_bipush (v := (15 : Int32)) hx hb dX5_readBell_68 (by decide) ?_
  obtain ⟨q_7, hc_8, hF⟩ := bnd_some hF
  refine cV_i (As := [.int (15 : Int32)]) (rest := []) C X (c_X5_expect l D hT aT yT aT_0 yT_0 (va_up aT_1 0 (aT 0)) yT_1 aT_1_1 yT_1_1 n gT gT_0 gT_1 gT_1_1 (15 : Int32) q_7 hc_8 _) (cwV 1 hts (good_V q4_78 q4_80 q0_14 q1_10 q4_81) rfl rfl rfl (by decide +kernel) ⟨Nat.le_of_ble_eq_true rfl, Nat.le_of_ble_eq_true rfl⟩) (va_recv X.1 X.2.1 (ci := 5) (q0 := 0) rfl rfl) (X.1.sub (tys' := tX5 yT ++ (tTP yT_0 ++ (tX7 yT_1 ++ (tX6 yT_1_1)))) [0, 1, 2, 3, 4, 5] rfl) (X.2.1.sub (ws' := wX5 hT aT yT gT ++ (wTP (aT 0) aT_0 yT_0 gT_0 ++ (wX7 (aT 1) (va_up aT_1 0 (aT 0)) yT_1 gT_1 ++ (wX6 ((va_up aT_1 0 (aT 0)) 1) aT_1_1 yT_1_1 gT_1_1)))) [0, 1, 2, 3, 4, 5, 6, 7, 8] rfl) (X.2.2.1.sub (ws' := wX5 hT aT yT gT ++ (wTP (aT 0) aT_0 yT_0 gT_0 ++ (wX7 (aT 1) (va_up aT_1 0 (aT 0)) yT_1 gT_1 ++ (wX6 ((va_up aT_1 0 (aT 0)) 1) aT_1_1 yT_1_1 gT_1_1)))) [0, 1, 2, 3, 4, 5, 6, 7, 8] (by decide) rfl) (free_of (wC := wX5 hT aT yT gT ++ (wTP (aT 0) aT_0 yT_0 gT_0 ++ (wX7 (aT 1) (va_up aT_1 0 (aT 0)) yT_1 gT_1 ++ (wX6 ((va_up aT_1 0 (aT 0)) 1) aT_1_1 yT_1_1 gT_1_1)))) (isC := [0, 1, 2, 3, 4, 5, 6, 7, 8]) X rfl) hl.1 rfl rfl (Nat.le_of_ble_eq_true rfl) dX5_readBell_70 ⟨Nat.le_of_ble_eq_true rfl, Nat.le_of_ble_eq_true rfl⟩ (fun t H1 locs1 ht hB hk hS => ?_)
  have X : Hx D (tX5 yT ++ (tTP yT_0 ++ (tX7 yT_1 ++ (tX6 yT_1_1 ++ (tX4 yT_14 ++ (tX0 yT_15)))))) A s H1 locs1 (wX5 hT aT yT gT ++ (wTP (aT 0) aT_0 yT_0 gT_0 ++ (wX7 (aT 1) (va_up aT_1 0 (aT 0)) yT_1 q_7.2 ++ (wX6 ((va_up aT_1 0 (aT 0)) 1) aT_1_1 yT_1_1 gT_1_1 ++ (wX4 hT_14 aT_14 yT_14 gT_14 ++ (wX0 hT_15 aT_15 yT_15 gT_15)))))) := Hx_after (isC := [0, 1, 2, 3, 4, 5, 6, 7, 8]) (isR := [9, 10, 11, 12, 13, 14, 15, 16, 17, 18, 19, 20, 21, 22, 23, 24, 25, 26, 27, 28, 29, 30, 31, 32, 33, 34, 35]) (pm := [27, 28, 29, 30, 31, 32, 33, 34, 35, 0, 1, 2, 3, 4, 5, 6, 7, 8, 9, 10, 11, 12, 13, 14, 15, 16, 17, 18, 19, 20, 21, 22, 23, 24, 25, 26]) (wr := wX4 hT_14 aT_14 yT_14 gT_14 ++ (wX0 hT_15 aT_15 yT_15 gT_15)) X ⟨rfl, rfl, by decide, by decide, rfl, by decide⟩ ht hB hk hS
  clear hk hS ht hB
  generalize H1 = H at X ⊢
  generalize locs1 = locs at X ⊢
  refine lv_if_eq (tgt := 89) hx hb dX5_readBell_73 (by decide) (fun c => ?_) (fun c => ?_)
  · replace hF := iT c hF
    refine lv_iconst (v := (0 : Int32)) hx hb dX5_readBell_89 (by decide) ?_
    have hq := Option.some.inj hF
    subst hq
    exact rt_z (v := (0 : Int32)) C X (by decide) dX5_readBell_90
  · replace hF := iF c hF
    refine lv_aload_n hx hb dX5_readBell_76 rfl (lv_at hl 3 rfl) ?_
    refine lv_iload_n hx hb dX5_readBell_77 rfl (lv_at hl 2 rfl) ?_
    refine lv_iload_n hx hb dX5_readBell_78 rfl (lv_at hl 1 rfl) ?_
    refine lv_bipush (v := (40 : Int32)) hx hb dX5_readBell_79 (by decide) ?_
    refine lv_bipush (v := (8 : Int32)) hx hb dX5_readBell_81 (by decide) ?_
    obtain ⟨q_9, hc_10, hF⟩ := bnd_some hF
    refine cV_i (As := [.int s0, .int (gI gT_1 5), .int (40 : Int32), .int (8 : Int32)]) (rest := []) C X (c_X5_readFormula l D hT aT yT aT_0 yT_0 (va_up aT_1 0 (aT 0)) yT_1 aT_1_1 yT_1_1 hT_15 aT_15 yT_15 n gT gT_0 q_7.2 gT_1_1 gT_15 s0 (gI gT_1 5) (40 : Int32) (8 : Int32) q_9 hc_10 _) (cwV 4 hts (good_V q4_82 q4_84 q0_15 q1_10 q4_85) rfl rfl rfl (by decide +kernel) ⟨Nat.le_of_ble_eq_true rfl, Nat.le_of_ble_eq_true rfl⟩) (va_recv X.1 X.2.1 (ci := 5) (q0 := 0) rfl rfl) (X.1.sub (tys' := tX5 yT ++ (tTP yT_0 ++ (tX7 yT_1 ++ (tX6 yT_1_1 ++ (tX0 yT_15))))) [0, 1, 2, 3, 4, 5, 16, 17, 18, 19, 20, 21, 22, 23, 24, 25, 26, 27, 28, 29, 30] rfl) (X.2.1.sub (ws' := wX5 hT aT yT gT ++ (wTP (aT 0) aT_0 yT_0 gT_0 ++ (wX7 (aT 1) (va_up aT_1 0 (aT 0)) yT_1 q_7.2 ++ (wX6 ((va_up aT_1 0 (aT 0)) 1) aT_1_1 yT_1_1 gT_1_1 ++ (wX0 hT_15 aT_15 yT_15 gT_15))))) [0, 1, 2, 3, 4, 5, 6, 7, 8, 20, 21, 22, 23, 24, 25, 26, 27, 28, 29, 30, 31, 32, 33, 34, 35] rfl) (X.2.2.1.sub (ws' := wX5 hT aT yT gT ++ (wTP (aT 0) aT_0 yT_0 gT_0 ++ (wX7 (aT 1) (va_up aT_1 0 (aT 0)) yT_1 q_7.2 ++ (wX6 ((va_up aT_1 0 (aT 0)) 1) aT_1_1 yT_1_1 gT_1_1 ++ (wX0 hT_15 aT_15 yT_15 gT_15))))) [0, 1, 2, 3, 4, 5, 6, 7, 8, 20, 21, 22, 23, 24, 25, 26, 27, 28, 29, 30, 31, 32, 33, 34, 35] (by decide) rfl) (free_of (wC := wX5 hT aT yT gT ++ (wTP (aT 0) aT_0 yT_0 gT_0 ++ (wX7 (aT 1) (va_up aT_1 0 (aT 0)) yT_1 q_7.2 ++ (wX6 ((va_up aT_1 0 (aT 0)) 1) aT_1_1 yT_1_1 gT_1_1 ++ (wX0 hT_15 aT_15 yT_15 gT_15))))) (isC := [0, 1, 2, 3, 4, 5, 6, 7, 8, 20, 21, 22, 23, 24, 25, 26, 27, 28, 29, 30, 31, 32, 33, 34, 35]) X rfl) hl.1 rfl rfl (Nat.le_of_ble_eq_true rfl) dX5_readBell_83 ⟨Nat.le_of_ble_eq_true rfl, Nat.le_of_ble_eq_true rfl⟩ (fun t H1 locs1 ht hB hk hS => ?_)
    have X : Hx D (tX5 yT ++ (tTP yT_0 ++ (tX7 yT_1 ++ (tX6 yT_1_1 ++ (tX4 yT_14 ++ (tX0 yT_15)))))) A s H1 locs1 (wX5 hT aT yT q_9.2.1 ++ (wTP (aT 0) aT_0 yT_0 gT_0 ++ (wX7 (aT 1) (va_up aT_1 0 (aT 0)) yT_1 q_9.2.2.1 ++ (wX6 ((va_up aT_1 0 (aT 0)) 1) aT_1_1 yT_1_1 gT_1_1 ++ (wX4 hT_14 aT_14 yT_14 gT_14 ++ (wX0 hT_15 aT_15 yT_15 q_9.2.2.2)))))) := Hx_after (isC := [0, 1, 2, 3, 4, 5, 6, 7, 8, 20, 21, 22, 23, 24, 25, 26, 27, 28, 29, 30, 31, 32, 33, 34, 35]) (isR := [9, 10, 11, 12, 13, 14, 15, 16, 17, 18, 19]) (pm := [11, 12, 13, 14, 15, 16, 17, 18, 19, 0, 1, 2, 3, 4, 5, 6, 7, 8, 9, 10, 20, 21, 22, 23, 24, 25, 26, 27, 28, 29, 30, 31, 32, 33, 34, 35]) (wr := wX4 hT_14 aT_14 yT_14 gT_14) X ⟨rfl, rfl, by decide, by decide, rfl, by decide⟩ ht hB hk hS
    clear hk hS ht hB
    generalize H1 = H at X ⊢
    generalize locs1 = locs at X ⊢
    refine lv_if_ne (tgt := 91) hx hb dX5_readBell_86 (by decide) (fun c => ?_) (fun c => ?_)
    · replace hF := iF c hF
      refine lv_iload_n hx hb dX5_readBell_91 rfl (lv_at hl 2 rfl) ?_
      refine lv_iconst (v := (-1 : Int32)) hx hb dX5_readBell_92 (by decide) ?_
      refine lv_icmp_eq (tgt := 144) hx hb dX5_readBell_93 (by decide) (fun c => ?_) (fun c => ?_)
      · replace hF := iT c hF
        exact (k_X5_readBell_144 l D hT aT yT aT_0 yT_0 aT_1 yT_1 aT_1_1 yT_1_1 hT_14 aT_14 yT_14 hT_15 aT_15 yT_15 n) C X (lv_sub hl [3] rfl) hF
      · replace hF := iF c hF
        refine lv_aload_n hx hb dX5_readBell_96 rfl (lv_at hl 3 rfl) ?_
        obtain ⟨h_14, hF⟩ := grd_some hF
        refine va_get (D := D.1) (ci := 5) (v := .ref hT_14) (C := RX5) (T := TX5) (N := 18) hx hb hts wi_X5 hown X.1 X.2.1 0 rfl rfl 14 (by decide) (hts _ q3_65) (fun _ h9 => h9) ((fl_get (by decide)).trans (rf_eq h_14)) dX5_readBell_97 ?_
        refine va_getN (D := D.1) (ci := 4) (v := .ref (aT_14 11)) (C := RX4) (T := TX4) (N := 14) hx hb hts wi_X4 hown X.1 X.2.1 9 rfl rfl 11 (by decide) (X.2.2.2.2.2.1.use q2_110 rfl) (fun _ h9 => h9) (fl_get (by decide)) dX5_readBell_100 ?_
        refine lv_aload_n hx hb dX5_readBell_103 rfl (lv_at hl 3 rfl) ?_
        obtain ⟨h_15, hF⟩ := grd_some hF
        refine va_get (D := D.1) (ci := 5) (v := .ref hT_14) (C := RX5) (T := TX5) (N := 18) hx hb hts wi_X5 hown X.1 X.2.1 0 rfl rfl 14 (by decide) (hts _ q3_65) (fun _ h9 => h9) ((fl_get (by decide)).trans (rf_eq h_15)) dX5_readBell_104 ?_
        refine va_getN (D := D.1) (ci := 4) (v := .int (gI gT_14 4)) (C := RX4) (T := TX4) (N := 14) hx hb hts wi_X4 hown X.1 X.2.1 9 rfl rfl 4 (by decide) (X.2.2.2.2.2.1.use q2_83 rfl) (fun _ h9 => h9) (fl_get (by decide)) dX5_readBell_107 ?_
        refine lv_aload_n hx hb dX5_readBell_110 rfl (lv_at hl 3 rfl) ?_
        obtain ⟨h_16, hF⟩ := grd_some hF
        refine va_get (D := D.1) (ci := 5) (v := .ref hT_14) (C := RX5) (T := TX5) (N := 18) hx hb hts wi_X5 hown X.1 X.2.1 0 rfl rfl 14 (by decide) (hts _ q3_65) (fun _ h9 => h9) ((fl_get (by decide)).trans (rf_eq h_16)) dX5_readBell_111 ?_
        refine va_getN (D := D.1) (ci := 4) (v := .int (gI gT_14 5)) (C := RX4) (T := TX4) (N := 14) hx hb hts wi_X4 hown X.1 X.2.1 9 rfl rfl 5 (by decide) (X.2.2.2.2.2.1.use q2_88 rfl) (fun _ h9 => h9) (fl_get (by decide)) dX5_readBell_114 ?_
        refine lv_iadd hx hb dX5_readBell_117 ?_
        refine lv_iload_n hx hb dX5_readBell_118 rfl (lv_at hl 2 rfl) ?_
        obtain ⟨h_17, hF⟩ := grd_some hF
        refine va_iast (D := D.1) (f := gIA gT_14 11) hx hb X.1 X.2.1 X.2.2.1 X.2.2.2.1 17 13 rfl rfl (inB_ok h_17) dX5_readBell_119 (fun H locs hP hD hS => ?_)
        have X : Hx D (tX5 yT ++ (tTP yT_0 ++ (tX7 yT_1 ++ (tX6 yT_1_1 ++ (tX4 yT_14 ++ (tX0 yT_15)))))) A s H locs (wX5 hT aT yT q_9.2.1 ++ (wTP (aT 0) aT_0 yT_0 gT_0 ++ (wX7 (aT 1) (va_up aT_1 0 (aT 0)) yT_1 q_9.2.2.1 ++ (wX6 ((va_up aT_1 0 (aT 0)) 1) aT_1_1 yT_1_1 gT_1_1 ++ (wX4 hT_14 aT_14 yT_14 (sIA gT_14 11 (upd (gIA gT_14 11) ((gI gT_14 4) + (gI gT_14 5)).toNatClampNeg s0)) ++ (wX0 hT_15 aT_15 yT_15 q_9.2.2.2)))))) := Hx_set X (set_r (n := 5) (i := 12) (j := 17) (wG_len rfl) rfl (set_r (n := 1) (i := 11) (j := 12) (rfl) rfl (set_r (n := 1) (i := 10) (j := 11) (wG_len rfl) rfl (set_r (n := 2) (i := 8) (j := 10) (wG_len rfl) rfl (set_l (by rw [wG_len (m := 11) rfl]; decide) (wG_sIA (i := 7) (k := 11) ndX4 rfl rfl)))))) hP hD hS
        refine lv_aload_n hx hb dX5_readBell_120 rfl (lv_at hl 3 rfl) ?_
        obtain ⟨h_18, hF⟩ := grd_some hF
        refine va_get (D := D.1) (ci := 5) (v := .ref hT_14) (C := RX5) (T := TX5) (N := 18) hx hb hts wi_X5 hown X.1 X.2.1 0 rfl rfl 14 (by decide) (hts _ q3_65) (fun _ h9 => h9) ((fl_get (by decide)).trans (rf_eq h_18)) dX5_readBell_121 ?_
        refine va_getN (D := D.1) (ci := 4) (v := .ref (aT_14 10)) (C := RX4) (T := TX4) (N := 14) hx hb hts wi_X4 hown X.1 X.2.1 9 rfl rfl 10 (by decide) (X.2.2.2.2.2.1.use q2_107 rfl) (fun _ h9 => h9) (fl_get (by decide)) dX5_readBell_124 ?_
        refine lv_iload_n hx hb dX5_readBell_127 rfl (lv_at hl 2 rfl) ?_
        refine lv_iload hx hb dX5_readBell_128 (lv_at hl 0 rfl) ?_
        obtain ⟨h_19, hF⟩ := grd_some hF
        refine va_iast (D := D.1) (f := gIA gT_14 10) hx hb X.1 X.2.1 X.2.2.1 X.2.2.2.1 16 12 rfl rfl (inB_ok h_19) dX5_readBell_130 (fun H locs hP hD hS => ?_)
        have X : Hx D (tX5 yT ++ (tTP yT_0 ++ (tX7 yT_1 ++ (tX6 yT_1_1 ++ (tX4 yT_14 ++ (tX0 yT_15)))))) A s H locs (wX5 hT aT yT q_9.2.1 ++ (wTP (aT 0) aT_0 yT_0 gT_0 ++ (wX7 (aT 1) (va_up aT_1 0 (aT 0)) yT_1 q_9.2.2.1 ++ (wX6 ((va_up aT_1 0 (aT 0)) 1) aT_1_1 yT_1_1 gT_1_1 ++ (wX4 hT_14 aT_14 yT_14 (sIA (sIA gT_14 11 (upd (gIA gT_14 11) ((gI gT_14 4) + (gI gT_14 5)).toNatClampNeg s0)) 10 (upd (gIA gT_14 10) s0.toNatClampNeg (gI gT_15 18))) ++ (wX0 hT_15 aT_15 yT_15 q_9.2.2.2)))))) := Hx_set X (set_r (n := 5) (i := 11) (j := 16) (wG_len rfl) rfl (set_r (n := 1) (i := 10) (j := 11) (rfl) rfl (set_r (n := 1) (i := 9) (j := 10) (wG_len rfl) rfl (set_r (n := 2) (i := 7) (j := 9) (wG_len rfl) rfl (set_l (by rw [wG_len (m := 11) rfl]; decide) (wG_sIA (i := 6) (k := 10) ndX4 rfl rfl)))))) hP hD hS
        refine lv_aload_n hx hb dX5_readBell_131 rfl (lv_at hl 3 rfl) ?_
        obtain ⟨h_20, hF⟩ := grd_some hF
        refine va_get (D := D.1) (ci := 5) (v := .ref hT_14) (C := RX5) (T := TX5) (N := 18) hx hb hts wi_X5 hown X.1 X.2.1 0 rfl rfl 14 (by decide) (hts _ q3_65) (fun _ h9 => h9) ((fl_get (by decide)).trans (rf_eq h_20)) dX5_readBell_132 ?_
        refine lv_dup hx hb dX5_readBell_135 rfl ?_
        refine va_getN (D := D.1) (ci := 4) (v := .int (gI gT_14 5)) (C := RX4) (T := TX4) (N := 14) hx hb hts wi_X4 hown X.1 X.2.1 9 rfl rfl 5 (by decide) (X.2.2.2.2.2.1.use q2_88 rfl) (fun _ h9 => h9) (fl_get (by decide)) dX5_readBell_136 ?_
        refine lv_iconst (v := (1 : Int32)) hx hb dX5_readBell_139 (by decide) ?_
        refine lv_iadd hx hb dX5_readBell_140 ?_
        refine va_putN (D := D.1) (ci := 4) (v := .int ((gI gT_14 5) + (1 : Int32))) (ty := .int) (C := RX4) (T := TX4) (N := 14) hx hb hts wi_X4 tyX4 tyX4_ok nmX4 hown X.1 X.2.1 X.2.2.1 X.2.2.2.1 9 rfl rfl 5 (by decide) (X.2.2.2.2.2.1.use q2_88 rfl) (fun _ h9 => h9) rfl (by decide +kernel) rfl rfl (by rw [List.length_map, List.length_range]; decide) dX5_readBell_141 (fun H locs hP hD hS => ?_)
        have X : Hx D (tX5 yT ++ (tTP yT_0 ++ (tX7 yT_1 ++ (tX6 yT_1_1 ++ (tX4 yT_14 ++ (tX0 yT_15)))))) A s H locs (wX5 hT aT yT q_9.2.1 ++ (wTP (aT 0) aT_0 yT_0 gT_0 ++ (wX7 (aT 1) (va_up aT_1 0 (aT 0)) yT_1 q_9.2.2.1 ++ (wX6 ((va_up aT_1 0 (aT 0)) 1) aT_1_1 yT_1_1 gT_1_1 ++ (wX4 hT_14 aT_14 yT_14 (sI (sIA (sIA gT_14 11 (upd (gIA gT_14 11) ((gI gT_14 4) + (gI gT_14 5)).toNatClampNeg s0)) 10 (upd (gIA gT_14 10) s0.toNatClampNeg (gI gT_15 18))) 5 ((gI gT_14 5) + (1 : Int32))) ++ (wX0 hT_15 aT_15 yT_15 q_9.2.2.2)))))) := Hx_set X (set_r (n := 5) (i := 4) (j := 9) (wG_len rfl) rfl (set_r (n := 1) (i := 3) (j := 4) (rfl) rfl (set_r (n := 1) (i := 2) (j := 3) (wG_len rfl) rfl (set_r (n := 2) (i := 0) (j := 2) (wG_len rfl) rfl (set_l (by rw [wG_len (m := 11) rfl]; decide) (wG_sI (k := 5) rfl)))))) hP hD hS
        exact (k_X5_readBell_144 l D hT aT yT aT_0 yT_0 aT_1 yT_1 aT_1_1 yT_1_1 hT_14 aT_14 yT_14 hT_15 aT_15 yT_15 n) C X (lv_sub hl [3] rfl) hF
    · replace hF := iT c hF
      refine lv_iconst (v := (0 : Int32)) hx hb dX5_readBell_89 (by decide) ?_
      have hq := Option.some.inj hF
      subst hq
      exact rt_z (v := (0 : Int32)) C X (by decide) dX5_readBell_90
set_option maxHeartbeats 4000000 in
set_option maxRecDepth 100000 in
theorem c_X5_readBell (l : Launch) (D : Dx) (hT : Nat) (aT : Nat → Nat) (yT : Nat → ClassId) (aT_0 : Nat → Nat) (yT_0 : Nat → ClassId) (aT_1 : Nat → Nat) (yT_1 : Nat → ClassId) (aT_1_1 : Nat → Nat) (yT_1_1 : Nat → ClassId) (hT_14 : Nat) (aT_14 : Nat → Nat) (yT_14 : Nat → ClassId) (hT_15 : Nat) (aT_15 : Nat → Nat) (yT_15 : Nat → ClassId) (n : Nat) (gT : Gs) (gT_0 : Gs) (gT_1 : Gs) (gT_1_1 : Gs) (gT_14 : Gs) (gT_15 : Gs) (q : Int32 × Gs × Gs × Gs × Gs) (hF : f_X5_readBell n hT_14 hT_15 gT gT_0 gT_1 gT_1_1 gT_14 gT_15 = some q) (sz : Nat) : Met l yX5_readBell (ws_ yX5_readBell cX5_readBell 5 (some .boolean)) R_X5_readBell (PC D (tX5 yT ++ (tTP yT_0 ++ (tX7 yT_1 ++ (tX6 yT_1_1 ++ (tX4 yT_14 ++ (tX0 yT_15)))))) [.ref hT] (wX5 hT aT yT gT ++ (wTP (aT 0) aT_0 yT_0 gT_0 ++ (wX7 (aT 1) (va_up aT_1 0 (aT 0)) yT_1 gT_1 ++ (wX6 ((va_up aT_1 0 (aT 0)) 1) aT_1_1 yT_1_1 gT_1_1 ++ (wX4 hT_14 aT_14 yT_14 gT_14 ++ (wX0 hT_15 aT_15 yT_15 gT_15)))))) sz) (QI D (va_A (wX5 hT aT yT gT ++ (wTP (aT 0) aT_0 yT_0 gT_0 ++ (wX7 (aT 1) (va_up aT_1 0 (aT 0)) yT_1 gT_1 ++ (wX6 ((va_up aT_1 0 (aT 0)) 1) aT_1_1 yT_1_1 gT_1_1 ++ (wX4 hT_14 aT_14 yT_14 gT_14 ++ (wX0 hT_15 aT_15 yT_15 gT_15)))))) sz) (wX5 hT aT yT q.2.1 ++ (wTP (aT 0) aT_0 yT_0 gT_0 ++ (wX7 (aT 1) (va_up aT_1 0 (aT 0)) yT_1 q.2.2.1 ++ (wX6 ((va_up aT_1 0 (aT 0)) 1) aT_1_1 yT_1_1 gT_1_1 ++ (wX4 hT_14 aT_14 yT_14 q.2.2.2.1 ++ (wX0 hT_15 aT_15 yT_15 q.2.2.2.2)))))) q.1) 0 0 (va_A (wX5 hT aT yT gT ++ (wTP (aT 0) aT_0 yT_0 gT_0 ++ (wX7 (aT 1) (va_up aT_1 0 (aT 0)) yT_1 gT_1 ++ (wX6 ((va_up aT_1 0 (aT 0)) 1) aT_1_1 yT_1_1 gT_1_1 ++ (wX4 hT_14 aT_14 yT_14 gT_14 ++ (wX0 hT_15 aT_15 yT_15 gT_15)))))) sz) := by
  refine Met.ofW (cc := cX5_readBell) (maxL := 5) (ret := (some .boolean)) (by decide) rfl ?_
  intro p e s m args below meth c s₁ B hml hv
  obtain ⟨rfl, hsz, hP, hK, hD, hN⟩ := hv
  subst hsz
  have C : Cx p s m _ meth c cX5_readBell (some .boolean) 5 RX5 lw_all := Cx_of B hml
  have X := Hx_start hP hK hD hN
  obtain ⟨hx, hb, hr, -, hown, hts, hlk⟩ := id C
  generalize va_A (wX5 hT aT yT gT ++ (wTP (aT 0) aT_0 yT_0 gT_0 ++ (wX7 (aT 1) (va_up aT_1 0 (aT 0)) yT_1 gT_1 ++ (wX6 ((va_up aT_1 0 (aT 0)) 1) aT_1_1 yT_1_1 gT_1_1 ++ (wX4 hT_14 aT_14 yT_14 gT_14 ++ (wX0 hT_15 aT_15 yT_15 gT_15)))))) s.heap.size = A at X ⊢
  have hl := lv_entry ([.ref hT]) (n := 5) (Nat.le_of_ble_eq_true rfl)
  rw [lg_entry_eq]
  generalize (lg_sl ([.ref hT]) ++ List.replicate (5 - (lg_sl ([.ref hT])).length) Slot.unset).toArray = ls at hl ⊢
  have hl : lv_has ls 5 [(0, .ref hT)] := hl
  unfold f_X5_readBell at hF
  refine lv_aload_n hx hb dX5_readBell_0 rfl (lv_at hl 0 rfl) ?_
  refine va_get (D := D.1) (ci := 5) (v := .ref (aT 1)) (C := RX5) (T := TX5) (N := 18) hx hb hts wi_X5 hown X.1 X.2.1 0 rfl rfl 1 (by decide) (hts _ q3_52) (fun _ h9 => h9) (fl_get (by decide)) dX5_readBell_1 ?_
  obtain ⟨q_1, hc_2, hF⟩ := bnd_some hF
  refine cV_v (As := []) (rest := []) C X (c_X7_advance l D (aT 1) (va_up aT_1 0 (aT 0)) yT_1 aT_0 yT_0 aT_1_1 yT_1_1 n gT_1 gT_0 gT_1_1 q_1 hc_2 _) (cwV 0 hts (good_V q4_61 q3_131 q3_132 q1_12 q3_133) rfl rfl rfl (by decide +kernel) ⟨Nat.le_of_ble_eq_true rfl, Nat.le_of_ble_eq_true rfl⟩) (va_recv X.1 X.2.1 (ci := 7) (q0 := 6) rfl rfl) (X.1.sub (tys' := tX7 yT_1 ++ (tTP yT_0 ++ (tX6 yT_1_1))) [4, 5] rfl) (X.2.1.sub (ws' := wX7 (aT 1) (va_up aT_1 0 (aT 0)) yT_1 gT_1 ++ (wTP (aT 0) aT_0 yT_0 gT_0 ++ (wX6 ((va_up aT_1 0 (aT 0)) 1) aT_1_1 yT_1_1 gT_1_1))) [6, 5, 7, 8] rfl) (X.2.2.1.sub (ws' := wX7 (aT 1) (va_up aT_1 0 (aT 0)) yT_1 gT_1 ++ (wTP (aT 0) aT_0 yT_0 gT_0 ++ (wX6 ((va_up aT_1 0 (aT 0)) 1) aT_1_1 yT_1_1 gT_1_1))) [6, 5, 7, 8] (by decide) rfl) (free_of (wC := wX7 (aT 1) (va_up aT_1 0 (aT 0)) yT_1 gT_1 ++ (wTP (aT 0) aT_0 yT_0 gT_0 ++ (wX6 ((va_up aT_1 0 (aT 0)) 1) aT_1_1 yT_1_1 gT_1_1))) (isC := [6, 5, 7, 8]) X rfl) hl.1 rfl rfl (Nat.le_of_ble_eq_true rfl) dX5_readBell_4 ⟨Nat.le_of_ble_eq_true rfl, Nat.le_of_ble_eq_true rfl⟩ (fun t H1 locs1 ht hB hk hS => ?_)
  have X : Hx D (tX5 yT ++ (tTP yT_0 ++ (tX7 yT_1 ++ (tX6 yT_1_1 ++ (tX4 yT_14 ++ (tX0 yT_15)))))) A s H1 locs1 (wX5 hT aT yT gT ++ (wTP (aT 0) aT_0 yT_0 gT_0 ++ (wX7 (aT 1) (va_up aT_1 0 (aT 0)) yT_1 q_1 ++ (wX6 ((va_up aT_1 0 (aT 0)) 1) aT_1_1 yT_1_1 gT_1_1 ++ (wX4 hT_14 aT_14 yT_14 gT_14 ++ (wX0 hT_15 aT_15 yT_15 gT_15)))))) := Hx_after (isC := [6, 5, 7, 8]) (isR := [0, 1, 2, 3, 4, 9, 10, 11, 12, 13, 14, 15, 16, 17, 18, 19, 20, 21, 22, 23, 24, 25, 26, 27, 28, 29, 30, 31, 32, 33, 34, 35]) (pm := [0, 1, 2, 3, 4, 33, 32, 34, 35, 5, 6, 7, 8, 9, 10, 11, 12, 13, 14, 15, 16, 17, 18, 19, 20, 21, 22, 23, 24, 25, 26, 27, 28, 29, 30, 31]) (wr := wX5 hT aT yT gT ++ (wX4 hT_14 aT_14 yT_14 gT_14 ++ (wX0 hT_15 aT_15 yT_15 gT_15))) X ⟨rfl, rfl, by decide, by decide, rfl, by decide⟩ ht hB hk hS
  clear hk hS ht hB
  generalize H1 = H at X ⊢
  generalize locs1 = locs at X ⊢
  refine lv_aload_n hx hb dX5_readBell_7 rfl (lv_at hl 0 rfl) ?_
  refine va_get (D := D.1) (ci := 5) (v := .ref (aT 1)) (C := RX5) (T := TX5) (N := 18) hx hb hts wi_X5 hown X.1 X.2.1 0 rfl rfl 1 (by decide) (hts _ q3_52) (fun _ h9 => h9) (fl_get (by decide)) dX5_readBell_8 ?_
  refine va_getN (D := D.1) (ci := 7) (v := .int (gI q_1 4)) (C := RX7) (T := TX7) (N := 12) hx hb hts wi_X7 hown X.1 X.2.1 6 rfl rfl 4 (by decide) (X.2.2.2.2.2.1.use q3_0 rfl) (fun _ h9 => h9) (fl_get (by decide)) dX5_readBell_11 ?_
  refine lv_iconst (v := (2 : Int32)) hx hb dX5_readBell_14 (by decide) ?_
  refine lv_icmp_eq (tgt := 20) hx hb dX5_readBell_15 (by decide) (fun c => ?_) (fun c => ?_)
  · replace hF := iT c hF
    refine lv_aload_n hx hb dX5_readBell_20 rfl (lv_at hl 0 rfl) ?_
    refine lv_bipush (v := (40 : Int32)) hx hb dX5_readBell_21 (by decide) ?_
    refine lv_aload_n hx hb dX5_readBell_23 rfl (lv_at hl 0 rfl) ?_
    obtain ⟨h_3, hF⟩ := grd_some hF
    refine va_get (D := D.1) (ci := 5) (v := .ref hT_14) (C := RX5) (T := TX5) (N := 18) hx hb hts wi_X5 hown X.1 X.2.1 0 rfl rfl 14 (by decide) (hts _ q3_65) (fun _ h9 => h9) ((fl_get (by decide)).trans (rf_eq h_3)) dX5_readBell_24 ?_
    refine va_getN (D := D.1) (ci := 4) (v := .int (gI gT_14 5)) (C := RX4) (T := TX4) (N := 14) hx hb hts wi_X4 hown X.1 X.2.1 9 rfl rfl 5 (by decide) (X.2.2.2.2.2.1.use q2_88 rfl) (fun _ h9 => h9) (fl_get (by decide)) dX5_readBell_27 ?_
    refine lv_bipush (v := (12 : Int32)) hx hb dX5_readBell_30 (by decide) ?_
    obtain ⟨q_4, hc_5, hF⟩ := bnd_some hF
    refine cV_i (As := [.int (40 : Int32), .int (gI gT_14 5), .int (12 : Int32)]) (rest := []) C X (c_X5_tell l D hT aT yT aT_0 yT_0 (va_up aT_1 0 (aT 0)) yT_1 aT_1_1 yT_1_1 hT_14 aT_14 yT_14 hT_15 aT_15 yT_15 n gT gT_0 q_1 gT_1_1 gT_14 gT_15 (40 : Int32) (gI gT_14 5) (12 : Int32) q_4 hc_5 _) (cwV 3 hts (good_V q4_62 q4_64 q0_12 q1_10 q4_65) rfl rfl rfl (by decide +kernel) ⟨Nat.le_of_ble_eq_true rfl, Nat.le_of_ble_eq_true rfl⟩) (va_recv X.1 X.2.1 (ci := 5) (q0 := 0) rfl rfl) X.1 X.2.1 X.2.2.1 (free_all X) hl.1 rfl rfl (Nat.le_of_ble_eq_true rfl) dX5_readBell_32 ⟨Nat.le_of_ble_eq_true rfl, Nat.le_of_ble_eq_true rfl⟩ (fun t H1 locs1 ht hB hk hS => ?_)
    have X : Hx D (tX5 yT ++ (tTP yT_0 ++ (tX7 yT_1 ++ (tX6 yT_1_1 ++ (tX4 yT_14 ++ (tX0 yT_15)))))) A s H1 locs1 (wX5 hT aT yT q_4.2.1 ++ (wTP (aT 0) aT_0 yT_0 gT_0 ++ (wX7 (aT 1) (va_up aT_1 0 (aT 0)) yT_1 q_4.2.2.1 ++ (wX6 ((va_up aT_1 0 (aT 0)) 1) aT_1_1 yT_1_1 gT_1_1 ++ (wX4 hT_14 aT_14 yT_14 q_4.2.2.2.1 ++ (wX0 hT_15 aT_15 yT_15 q_4.2.2.2.2)))))) := Hx_after_all X ht hB hS
    clear hk hS ht hB
    generalize H1 = H at X ⊢
    generalize locs1 = locs at X ⊢
    refine lv_istore_n (lv' := [(1, .int q_4.1), (0, .ref hT)]) hx hb dX5_readBell_35 rfl hl (by decide) rfl (fun ls hl => ?_)
    refine lv_iload_n hx hb dX5_readBell_36 rfl (lv_at hl 0 rfl) ?_
    refine lv_iconst (v := (-1 : Int32)) hx hb dX5_readBell_37 (by decide) ?_
    refine lv_icmp_ne (tgt := 45) hx hb dX5_readBell_38 (by decide) (fun c => ?_) (fun c => ?_)
    · replace hF := iF c hF
      refine lv_bipush (v := (40 : Int32)) hx hb dX5_readBell_45 (by decide) ?_
      refine lv_iload_n hx hb dX5_readBell_47 rfl (lv_at hl 0 rfl) ?_
      refine lv_iadd hx hb dX5_readBell_48 ?_
      exact (k_X5_readBell_49 l D hT aT yT aT_0 yT_0 aT_1 yT_1 aT_1_1 yT_1_1 hT_14 aT_14 yT_14 hT_15 aT_15 yT_15 n) C X (lv_sub hl [1] rfl) hF
    · replace hF := iT c hF
      refine lv_iconst (v := (-1 : Int32)) hx hb dX5_readBell_41 (by decide) ?_
      refine lv_goto (tgt := 49) hx hb dX5_readBell_42 (by decide) ?_
      exact (k_X5_readBell_49 l D hT aT yT aT_0 yT_0 aT_1 yT_1 aT_1_1 yT_1_1 hT_14 aT_14 yT_14 hT_15 aT_15 yT_15 n) C X (lv_sub hl [1] rfl) hF
  · replace hF := iF c hF
    refine lv_iconst (v := (0 : Int32)) hx hb dX5_readBell_18 (by decide) ?_
    have hq := Option.some.inj hF
    subst hq
    exact rt_z (v := (0 : Int32)) C X (by decide) dX5_readBell_19

/-! ### X5_readCam -/
theorem dX5_readCam_0 : decode cX5_readCam 0 = .ok (.aload_n 0, 1) := by decide +kernel
theorem dX5_readCam_1 : decode cX5_readCam 1 = .ok (.getfield 77, 3) := by decide +kernel
theorem dX5_readCam_4 : decode cX5_readCam 4 = .ok (.invokevirtual 145, 3) := by decide +kernel
theorem dX5_readCam_7 : decode cX5_readCam 7 = .ok (.aload_n 0, 1) := by decide +kernel
theorem dX5_readCam_8 : decode cX5_readCam 8 = .ok (.getfield 77, 3) := by decide +kernel
theorem dX5_readCam_11 : decode cX5_readCam 11 = .ok (.getfield 100, 3) := by decide +kernel
theorem dX5_readCam_14 : decode cX5_readCam 14 = .ok (.iconst 2, 1) := by decide +kernel
theorem dX5_readCam_15 : decode cX5_readCam 15 = .ok (.if_icmp .eq 5, 3) := by decide +kernel
theorem dX5_readCam_18 : decode cX5_readCam 18 = .ok (.iconst 0, 1) := by decide +kernel
theorem dX5_readCam_19 : decode cX5_readCam 19 = .ok (.ireturn, 1) := by decide +kernel
theorem dX5_readCam_20 : decode cX5_readCam 20 = .ok (.aload_n 0, 1) := by decide +kernel
theorem dX5_readCam_21 : decode cX5_readCam 21 = .ok (.bipush 52, 2) := by decide +kernel
theorem dX5_readCam_23 : decode cX5_readCam 23 = .ok (.aload_n 0, 1) := by decide +kernel
theorem dX5_readCam_24 : decode cX5_readCam 24 = .ok (.getfield 61, 3) := by decide +kernel
theorem dX5_readCam_27 : decode cX5_readCam 27 = .ok (.getfield 158, 3) := by decide +kernel
theorem dX5_readCam_30 : decode cX5_readCam 30 = .ok (.bipush 8, 2) := by decide +kernel
theorem dX5_readCam_32 : decode cX5_readCam 32 = .ok (.invokevirtual 164, 3) := by decide +kernel
theorem dX5_readCam_35 : decode cX5_readCam 35 = .ok (.istore_n 1, 1) := by decide +kernel
theorem dX5_readCam_36 : decode cX5_readCam 36 = .ok (.aload_n 0, 1) := by decide +kernel
theorem dX5_readCam_37 : decode cX5_readCam 37 = .ok (.bipush 43, 2) := by decide +kernel
theorem dX5_readCam_39 : decode cX5_readCam 39 = .ok (.invokevirtual 168, 3) := by decide +kernel
theorem dX5_readCam_42 : decode cX5_readCam 42 = .ok (.ifCond .ne 5, 3) := by decide +kernel
theorem dX5_readCam_45 : decode cX5_readCam 45 = .ok (.iconst 0, 1) := by decide +kernel
theorem dX5_readCam_46 : decode cX5_readCam 46 = .ok (.ireturn, 1) := by decide +kernel
theorem dX5_readCam_47 : decode cX5_readCam 47 = .ok (.iconst 1, 1) := by decide +kernel
theorem dX5_readCam_48 : decode cX5_readCam 48 = .ok (.istore_n 2, 1) := by decide +kernel
theorem dX5_readCam_49 : decode cX5_readCam 49 = .ok (.iconst 0, 1) := by decide +kernel
theorem dX5_readCam_50 : decode cX5_readCam 50 = .ok (.istore_n 3, 1) := by decide +kernel
theorem dX5_readCam_51 : decode cX5_readCam 51 = .ok (.iload_n 3, 1) := by decide +kernel
theorem dX5_readCam_52 : decode cX5_readCam 52 = .ok (.sipush 3000, 3) := by decide +kernel
theorem dX5_readCam_55 : decode cX5_readCam 55 = .ok (.if_icmp .gt 167, 3) := by decide +kernel
theorem dX5_readCam_58 : decode cX5_readCam 58 = .ok (.iload_n 2, 1) := by decide +kernel
theorem dX5_readCam_59 : decode cX5_readCam 59 = .ok (.ifCond .eq 163, 3) := by decide +kernel
theorem dX5_readCam_62 : decode cX5_readCam 62 = .ok (.aload_n 0, 1) := by decide +kernel
theorem dX5_readCam_63 : decode cX5_readCam 63 = .ok (.getfield 77, 3) := by decide +kernel
theorem dX5_readCam_66 : decode cX5_readCam 66 = .ok (.getfield 100, 3) := by decide +kernel
theorem dX5_readCam_69 : decode cX5_readCam 69 = .ok (.bipush 50, 2) := by decide +kernel
theorem dX5_readCam_71 : decode cX5_readCam 71 = .ok (.if_icmp .ne 7, 3) := by decide +kernel
theorem dX5_readCam_74 : decode cX5_readCam 74 = .ok (.iconst 1, 1) := by decide +kernel
theorem dX5_readCam_75 : decode cX5_readCam 75 = .ok (.goto 4, 3) := by decide +kernel
theorem dX5_readCam_78 : decode cX5_readCam 78 = .ok (.iconst 0, 1) := by decide +kernel
theorem dX5_readCam_79 : decode cX5_readCam 79 = .ok (.istore 4, 2) := by decide +kernel
theorem dX5_readCam_81 : decode cX5_readCam 81 = .ok (.iload 4, 2) := by decide +kernel
theorem dX5_readCam_83 : decode cX5_readCam 83 = .ok (.ifCond .eq 10, 3) := by decide +kernel
theorem dX5_readCam_86 : decode cX5_readCam 86 = .ok (.aload_n 0, 1) := by decide +kernel
theorem dX5_readCam_87 : decode cX5_readCam 87 = .ok (.getfield 77, 3) := by decide +kernel
theorem dX5_readCam_90 : decode cX5_readCam 90 = .ok (.invokevirtual 145, 3) := by decide +kernel
theorem dX5_readCam_93 : decode cX5_readCam 93 = .ok (.aload_n 0, 1) := by decide +kernel
theorem dX5_readCam_94 : decode cX5_readCam 94 = .ok (.getfield 77, 3) := by decide +kernel
theorem dX5_readCam_97 : decode cX5_readCam 97 = .ok (.getfield 100, 3) := by decide +kernel
theorem dX5_readCam_100 : decode cX5_readCam 100 = .ok (.iconst 3, 1) := by decide +kernel
theorem dX5_readCam_101 : decode cX5_readCam 101 = .ok (.if_icmp .eq 5, 3) := by decide +kernel
theorem dX5_readCam_104 : decode cX5_readCam 104 = .ok (.iconst 0, 1) := by decide +kernel
theorem dX5_readCam_105 : decode cX5_readCam 105 = .ok (.ireturn, 1) := by decide +kernel
theorem dX5_readCam_106 : decode cX5_readCam 106 = .ok (.iload_n 3, 1) := by decide +kernel
theorem dX5_readCam_107 : decode cX5_readCam 107 = .ok (.bipush 24, 2) := by decide +kernel
theorem dX5_readCam_109 : decode cX5_readCam 109 = .ok (.if_icmp .lt 17, 3) := by decide +kernel
theorem dX5_readCam_112 : decode cX5_readCam 112 = .ok (.aload_n 0, 1) := by decide +kernel
theorem dX5_readCam_113 : decode cX5_readCam 113 = .ok (.aload_n 0, 1) := by decide +kernel
theorem dX5_readCam_114 : decode cX5_readCam 114 = .ok (.getfield 77, 3) := by decide +kernel
theorem dX5_readCam_117 : decode cX5_readCam 117 = .ok (.getfield 114, 3) := by decide +kernel
theorem dX5_readCam_120 : decode cX5_readCam 120 = .ok (.invokevirtual 148, 3) := by decide +kernel
theorem dX5_readCam_123 : decode cX5_readCam 123 = .ok (.goto 79, 3) := by decide +kernel
theorem dX5_readCam_126 : decode cX5_readCam 126 = .ok (.iload_n 1, 1) := by decide +kernel
theorem dX5_readCam_127 : decode cX5_readCam 127 = .ok (.iconst (-1), 1) := by decide +kernel
theorem dX5_readCam_128 : decode cX5_readCam 128 = .ok (.if_icmp .eq 74, 3) := by decide +kernel
theorem dX5_readCam_131 : decode cX5_readCam 131 = .ok (.aload_n 0, 1) := by decide +kernel
theorem dX5_readCam_132 : decode cX5_readCam 132 = .ok (.getfield 77, 3) := by decide +kernel
theorem dX5_readCam_135 : decode cX5_readCam 135 = .ok (.getfield 194, 3) := by decide +kernel
theorem dX5_readCam_138 : decode cX5_readCam 138 = .ok (.bipush 6, 2) := by decide +kernel
theorem dX5_readCam_140 : decode cX5_readCam 140 = .ok (.if_icmp .lt 13, 3) := by decide +kernel
theorem dX5_readCam_143 : decode cX5_readCam 143 = .ok (.aload_n 0, 1) := by decide +kernel
theorem dX5_readCam_144 : decode cX5_readCam 144 = .ok (.getfield 77, 3) := by decide +kernel
theorem dX5_readCam_147 : decode cX5_readCam 147 = .ok (.getfield 197, 3) := by decide +kernel
theorem dX5_readCam_150 : decode cX5_readCam 150 = .ok (.goto 11, 3) := by decide +kernel
theorem dX5_readCam_153 : decode cX5_readCam 153 = .ok (.aload_n 0, 1) := by decide +kernel
theorem dX5_readCam_154 : decode cX5_readCam 154 = .ok (.getfield 77, 3) := by decide +kernel
theorem dX5_readCam_157 : decode cX5_readCam 157 = .ok (.getfield 201, 3) := by decide +kernel
theorem dX5_readCam_160 : decode cX5_readCam 160 = .ok (.l2d, 1) := by decide +kernel
theorem dX5_readCam_161 : decode cX5_readCam 161 = .ok (.dstore 5, 2) := by decide +kernel
theorem dX5_readCam_163 : decode cX5_readCam 163 = .ok (.aload_n 0, 1) := by decide +kernel
theorem dX5_readCam_164 : decode cX5_readCam 164 = .ok (.getfield 61, 3) := by decide +kernel
theorem dX5_readCam_167 : decode cX5_readCam 167 = .ok (.getfield 205, 3) := by decide +kernel
theorem dX5_readCam_170 : decode cX5_readCam 170 = .ok (.iload_n 1, 1) := by decide +kernel
theorem dX5_readCam_171 : decode cX5_readCam 171 = .ok (.bipush 24, 2) := by decide +kernel
theorem dX5_readCam_173 : decode cX5_readCam 173 = .ok (.imul, 1) := by decide +kernel
theorem dX5_readCam_174 : decode cX5_readCam 174 = .ok (.iload_n 3, 1) := by decide +kernel
theorem dX5_readCam_175 : decode cX5_readCam 175 = .ok (.iadd, 1) := by decide +kernel
theorem dX5_readCam_176 : decode cX5_readCam 176 = .ok (.iload 4, 2) := by decide +kernel
theorem dX5_readCam_178 : decode cX5_readCam 178 = .ok (.ifCond .eq 9, 3) := by decide +kernel
theorem dX5_readCam_181 : decode cX5_readCam 181 = .ok (.dload 5, 2) := by decide +kernel
theorem dX5_readCam_183 : decode cX5_readCam 183 = .ok (.dneg, 1) := by decide +kernel
theorem dX5_readCam_184 : decode cX5_readCam 184 = .ok (.goto 5, 3) := by decide +kernel
theorem dX5_readCam_187 : decode cX5_readCam 187 = .ok (.dload 5, 2) := by decide +kernel
theorem dX5_readCam_189 : decode cX5_readCam 189 = .ok (.dastore, 1) := by decide +kernel
theorem dX5_readCam_190 : decode cX5_readCam 190 = .ok (.aload_n 0, 1) := by decide +kernel
theorem dX5_readCam_191 : decode cX5_readCam 191 = .ok (.getfield 61, 3) := by decide +kernel
theorem dX5_readCam_194 : decode cX5_readCam 194 = .ok (.getfield 209, 3) := by decide +kernel
theorem dX5_readCam_197 : decode cX5_readCam 197 = .ok (.iload_n 1, 1) := by decide +kernel
theorem dX5_readCam_198 : decode cX5_readCam 198 = .ok (.iload_n 3, 1) := by decide +kernel
theorem dX5_readCam_199 : decode cX5_readCam 199 = .ok (.iconst 1, 1) := by decide +kernel
theorem dX5_readCam_200 : decode cX5_readCam 200 = .ok (.iadd, 1) := by decide +kernel
theorem dX5_readCam_201 : decode cX5_readCam 201 = .ok (.iastore, 1) := by decide +kernel
theorem dX5_readCam_202 : decode cX5_readCam 202 = .ok (.aload_n 0, 1) := by decide +kernel
theorem dX5_readCam_203 : decode cX5_readCam 203 = .ok (.getfield 77, 3) := by decide +kernel
theorem dX5_readCam_206 : decode cX5_readCam 206 = .ok (.invokevirtual 145, 3) := by decide +kernel
theorem dX5_readCam_209 : decode cX5_readCam 209 = .ok (.aload_n 0, 1) := by decide +kernel
theorem dX5_readCam_210 : decode cX5_readCam 210 = .ok (.bipush 42, 2) := by decide +kernel
theorem dX5_readCam_212 : decode cX5_readCam 212 = .ok (.invokevirtual 168, 3) := by decide +kernel
theorem dX5_readCam_215 : decode cX5_readCam 215 = .ok (.istore_n 2, 1) := by decide +kernel
theorem dX5_readCam_216 : decode cX5_readCam 216 = .ok (.iinc 3 1, 3) := by decide +kernel
theorem dX5_readCam_219 : decode cX5_readCam 219 = .ok (.goto (-168), 3) := by decide +kernel
theorem dX5_readCam_222 : decode cX5_readCam 222 = .ok (.aload_n 0, 1) := by decide +kernel
theorem dX5_readCam_223 : decode cX5_readCam 223 = .ok (.getfield 61, 3) := by decide +kernel
theorem dX5_readCam_226 : decode cX5_readCam 226 = .ok (.dup, 1) := by decide +kernel
theorem dX5_readCam_227 : decode cX5_readCam 227 = .ok (.getfield 158, 3) := by decide +kernel
theorem dX5_readCam_230 : decode cX5_readCam 230 = .ok (.iload_n 1, 1) := by decide +kernel
theorem dX5_readCam_231 : decode cX5_readCam 231 = .ok (.iconst (-1), 1) := by decide +kernel
theorem dX5_readCam_232 : decode cX5_readCam 232 = .ok (.if_icmp .ne 7, 3) := by decide +kernel
theorem dX5_readCam_235 : decode cX5_readCam 235 = .ok (.iconst 0, 1) := by decide +kernel
theorem dX5_readCam_236 : decode cX5_readCam 236 = .ok (.goto 4, 3) := by decide +kernel
theorem dX5_readCam_239 : decode cX5_readCam 239 = .ok (.iconst 1, 1) := by decide +kernel
theorem dX5_readCam_240 : decode cX5_readCam 240 = .ok (.iadd, 1) := by decide +kernel
theorem dX5_readCam_241 : decode cX5_readCam 241 = .ok (.putfield 158, 3) := by decide +kernel
theorem dX5_readCam_244 : decode cX5_readCam 244 = .ok (.aload_n 0, 1) := by decide +kernel
theorem dX5_readCam_245 : decode cX5_readCam 245 = .ok (.bipush 41, 2) := by decide +kernel
theorem dX5_readCam_247 : decode cX5_readCam 247 = .ok (.invokevirtual 168, 3) := by decide +kernel
theorem dX5_readCam_250 : decode cX5_readCam 250 = .ok (.ireturn, 1) := by decide +kernel
abbrev R_X5_readCam : Room := ({ frames := 8, cells := 0, slots := 0, locals := 199 } : Room)
def b_X5_readCam_240 (n : Nat) (hT_14 : Nat) (hT_15 : Nat) (rec : (Gs → Gs → Gs → Gs → Gs → Gs → Int32 → Int32 → Int32 → Option (Int32 × Gs × Gs × Gs × Gs))) (gT : Gs) (gT_0 : Gs) (gT_1 : Gs) (gT_1_1 : Gs) (gT_14 : Gs) (gT_15 : Gs) (s0 : Int32) (s1 : Int32) : Option (Int32 × Gs × Gs × Gs × Gs) :=
  bnd (f_X5_expect n gT gT_0 gT_1 gT_1_1 (41 : Int32)) (fun q_9 => grd (zB q_9.1) (some (q_9.1, gT, q_9.2, (sI gT_14 6 (s1 + s0)), gT_15)))
def b_X5_readCam_222 (n : Nat) (hT_14 : Nat) (hT_15 : Nat) (rec : (Gs → Gs → Gs → Gs → Gs → Gs → Int32 → Int32 → Int32 → Option (Int32 × Gs × Gs × Gs × Gs))) (gT : Gs) (gT_0 : Gs) (gT_1 : Gs) (gT_1_1 : Gs) (gT_14 : Gs) (gT_15 : Gs) (v1 : Int32) : Option (Int32 × Gs × Gs × Gs × Gs) :=
  grd (rEq (gR gT 14) hT_14) (if v1 = (-1 : Int32) then (b_X5_readCam_240 n hT_14 hT_15 rec gT gT_0 gT_1 gT_1_1 gT_14 gT_15 (0 : Int32) (gI gT_14 6)) else (b_X5_readCam_240 n hT_14 hT_15 rec gT gT_0 gT_1 gT_1_1 gT_14 gT_15 (1 : Int32) (gI gT_14 6)))
def b_X5_readCam_202 (n : Nat) (hT_14 : Nat) (hT_15 : Nat) (rec : (Gs → Gs → Gs → Gs → Gs → Gs → Int32 → Int32 → Int32 → Option (Int32 × Gs × Gs × Gs × Gs))) (gT : Gs) (gT_0 : Gs) (gT_1 : Gs) (gT_1_1 : Gs) (gT_14 : Gs) (gT_15 : Gs) (v1 : Int32) (v3 : Int32) : Option (Int32 × Gs × Gs × Gs × Gs) :=
  bnd (f_X7_advance n gT_1 gT_0 gT_1_1) (fun q_12 => bnd (f_X5_expect n gT gT_0 q_12 gT_1_1 (42 : Int32)) (fun q_14 => rec gT gT_0 q_14.2 gT_1_1 gT_14 gT_15 v1 q_14.1 (v3 + (1 : Int32))))
def b_X5_readCam_189 (n : Nat) (hT_14 : Nat) (hT_15 : Nat) (rec : (Gs → Gs → Gs → Gs → Gs → Gs → Int32 → Int32 → Int32 → Option (Int32 × Gs × Gs × Gs × Gs))) (gT : Gs) (gT_0 : Gs) (gT_1 : Gs) (gT_1_1 : Gs) (gT_14 : Gs) (gT_15 : Gs) (v1 : Int32) (v3 : Int32) (s0 : UInt64) (s1 : Int32) : Option (Int32 × Gs × Gs × Gs × Gs) :=
  grd (inB s1 192) (grd (rEq (gR gT 14) hT_14) (grd (inB v1 8) (b_X5_readCam_202 n hT_14 hT_15 rec gT gT_0 gT_1 gT_1_1 (sIA (sDA gT_14 12 (vf_upd (gDA gT_14 12) s1.toNatClampNeg s0)) 13 (upd (gIA gT_14 13) v1.toNatClampNeg (v3 + (1 : Int32)))) gT_15 v1 v3)))
def b_X5_readCam_161 (n : Nat) (hT_14 : Nat) (hT_15 : Nat) (rec : (Gs → Gs → Gs → Gs → Gs → Gs → Int32 → Int32 → Int32 → Option (Int32 × Gs × Gs × Gs × Gs))) (gT : Gs) (gT_0 : Gs) (gT_1 : Gs) (gT_1_1 : Gs) (gT_14 : Gs) (gT_15 : Gs) (v1 : Int32) (v3 : Int32) (v4 : Int32) (s0 : UInt64) : Option (Int32 × Gs × Gs × Gs × Gs) :=
  grd (rEq (gR gT 14) hT_14) (if v4 = 0 then (b_X5_readCam_189 n hT_14 hT_15 rec gT gT_0 gT_1 gT_1_1 gT_14 gT_15 v1 v3 s0 ((v1 * (24 : Int32)) + v3)) else (b_X5_readCam_189 n hT_14 hT_15 rec gT gT_0 gT_1 gT_1_1 gT_14 gT_15 v1 v3 (FP.dneg s0) ((v1 * (24 : Int32)) + v3)))
def b_X5_readCam_93 (n : Nat) (hT_14 : Nat) (hT_15 : Nat) (rec : (Gs → Gs → Gs → Gs → Gs → Gs → Int32 → Int32 → Int32 → Option (Int32 × Gs × Gs × Gs × Gs))) (gT : Gs) (gT_0 : Gs) (gT_1 : Gs) (gT_1_1 : Gs) (gT_14 : Gs) (gT_15 : Gs) (v1 : Int32) (v3 : Int32) (v4 : Int32) : Option (Int32 × Gs × Gs × Gs × Gs) :=
  if (gI gT_1 4) = (3 : Int32) then (if v3 < (24 : Int32) then (if v1 = (-1 : Int32) then (b_X5_readCam_202 n hT_14 hT_15 rec gT gT_0 gT_1 gT_1_1 gT_14 gT_15 v1 v3) else (if (gI gT_1 7) < (6 : Int32) then (b_X5_readCam_161 n hT_14 hT_15 rec gT gT_0 gT_1 gT_1_1 gT_14 gT_15 v1 v3 v4 (FP.l2d (gL gT_1 8))) else (b_X5_readCam_161 n hT_14 hT_15 rec gT gT_0 gT_1 gT_1_1 gT_14 gT_15 v1 v3 v4 (gD gT_1 9)))) else (bnd (f_X5_noteTooMuch hT_15 gT gT_15 (gI gT_1 5)) (fun q_20 => b_X5_readCam_202 n hT_14 hT_15 rec q_20.1 gT_0 gT_1 gT_1_1 gT_14 q_20.2 v1 v3))) else (some ((0 : Int32), gT, gT_1, gT_14, gT_15))
def b_X5_readCam_79 (n : Nat) (hT_14 : Nat) (hT_15 : Nat) (rec : (Gs → Gs → Gs → Gs → Gs → Gs → Int32 → Int32 → Int32 → Option (Int32 × Gs × Gs × Gs × Gs))) (gT : Gs) (gT_0 : Gs) (gT_1 : Gs) (gT_1_1 : Gs) (gT_14 : Gs) (gT_15 : Gs) (v1 : Int32) (v3 : Int32) (s0 : Int32) : Option (Int32 × Gs × Gs × Gs × Gs) :=
  if s0 = 0 then (b_X5_readCam_93 n hT_14 hT_15 rec gT gT_0 gT_1 gT_1_1 gT_14 gT_15 v1 v3 s0) else (bnd (f_X7_advance n gT_1 gT_0 gT_1_1) (fun q_22 => b_X5_readCam_93 n hT_14 hT_15 rec gT gT_0 q_22 gT_1_1 gT_14 gT_15 v1 v3 s0))
def h_X5_readCam_51 (n : Nat) (hT_14 : Nat) (hT_15 : Nat) (rec : (Gs → Gs → Gs → Gs → Gs → Gs → Int32 → Int32 → Int32 → Option (Int32 × Gs × Gs × Gs × Gs))) (gT : Gs) (gT_0 : Gs) (gT_1 : Gs) (gT_1_1 : Gs) (gT_14 : Gs) (gT_15 : Gs) (v1 : Int32) (v2 : Int32) (v3 : Int32) : Option (Int32 × Gs × Gs × Gs × Gs) :=
  if (3000 : Int32) < v3 then (b_X5_readCam_222 n hT_14 hT_15 rec gT gT_0 gT_1 gT_1_1 gT_14 gT_15 v1) else (if v2 = 0 then (b_X5_readCam_222 n hT_14 hT_15 rec gT gT_0 gT_1 gT_1_1 gT_14 gT_15 v1) else (if (gI gT_1 4) = (50 : Int32) then (b_X5_readCam_79 n hT_14 hT_15 rec gT gT_0 gT_1 gT_1_1 gT_14 gT_15 v1 v3 (1 : Int32)) else (b_X5_readCam_79 n hT_14 hT_15 rec gT gT_0 gT_1 gT_1_1 gT_14 gT_15 v1 v3 (0 : Int32))))
def L_X5_readCam (n : Nat) (hT_14 : Nat) (hT_15 : Nat) : Nat → (Gs → Gs → Gs → Gs → Gs → Gs → Int32 → Int32 → Int32 → Option (Int32 × Gs × Gs × Gs × Gs))
  | 0 => ((fun _ _ _ _ _ _ _ _ _ => none))
  | k + 1 => (h_X5_readCam_51 n hT_14 hT_15 (L_X5_readCam n hT_14 hT_15 k))
def f_X5_readCam (n : Nat) (hT_14 : Nat) (hT_15 : Nat) (gT : Gs) (gT_0 : Gs) (gT_1 : Gs) (gT_1_1 : Gs) (gT_14 : Gs) (gT_15 : Gs) : Option (Int32 × Gs × Gs × Gs × Gs) :=
  bnd (f_X7_advance n gT_1 gT_0 gT_1_1) (fun q_1 => if (gI q_1 4) = (2 : Int32) then (grd (rEq (gR gT 14) hT_14) (bnd (f_X5_tell n hT_14 hT_15 gT gT_0 q_1 gT_1_1 gT_14 gT_15 (52 : Int32) (gI gT_14 6) (8 : Int32)) (fun q_4 => bnd (f_X5_expect n q_4.2.1 gT_0 q_4.2.2.1 gT_1_1 (43 : Int32)) (fun q_6 => if q_6.1 = 0 then (some ((0 : Int32), q_4.2.1, q_6.2, q_4.2.2.2.1, q_4.2.2.2.2)) else ((L_X5_readCam n hT_14 hT_15 n) q_4.2.1 gT_0 q_6.2 gT_1_1 q_4.2.2.2.1 q_4.2.2.2.2 q_4.1 (1 : Int32) (0 : Int32)))))) else (some ((0 : Int32), gT, q_1, gT_14, gT_15)))
def S_X5_readCam_240 (l : Launch) (D : Dx) (hT : Nat) (aT : Nat → Nat) (yT : Nat → ClassId) (aT_0 : Nat → Nat) (yT_0 : Nat → ClassId) (aT_1 : Nat → Nat) (yT_1 : Nat → ClassId) (aT_1_1 : Nat → Nat) (yT_1_1 : Nat → ClassId) (hT_14 : Nat) (aT_14 : Nat → Nat) (yT_14 : Nat → ClassId) (hT_15 : Nat) (aT_15 : Nat → Nat) (yT_15 : Nat → ClassId) (fn : Gs → Gs → Gs → Gs → Gs → Gs → Int32 → Int32 → Option (Int32 × Gs × Gs × Gs × Gs)) : Prop :=
  ∀ {p : Program} {e : Env} {s : State} {m : MethodId} {args : Array Value} {below : List Frame} {meth : Method} {c : Code} {H : Heap} {locs : List Loc} {A : Nat → Prop} {ls : Array Slot} {gT : Gs} {gT_0 : Gs} {gT_1 : Gs} {gT_1_1 : Gs} {gT_14 : Gs} {gT_15 : Gs} {s0 : Int32} {s1 : Int32} {q : Int32 × Gs × Gs × Gs × Gs}, Cx p s m args meth c cX5_readCam (some .boolean) 7 RX5 lw_all → Hx D (tX5 yT ++ (tTP yT_0 ++ (tX7 yT_1 ++ (tX6 yT_1_1 ++ (tX4 yT_14 ++ (tX0 yT_15)))))) A s H locs (wX5 hT aT yT gT ++ (wTP (aT 0) aT_0 yT_0 gT_0 ++ (wX7 (aT 1) (va_up aT_1 0 (aT 0)) yT_1 gT_1 ++ (wX6 ((va_up aT_1 0 (aT 0)) 1) aT_1_1 yT_1_1 gT_1_1 ++ (wX4 hT_14 aT_14 yT_14 gT_14 ++ (wX0 hT_15 aT_15 yT_15 gT_15)))))) → lv_has ls 7 [(0, .ref hT)] → fn gT gT_0 gT_1 gT_1_1 gT_14 gT_15 s0 s1 = some q → W p l e R_X5_readCam s m args below meth c H locs 0 0 (MQ below (QI D A (wX5 hT aT yT q.2.1 ++ (wTP (aT 0) aT_0 yT_0 gT_0 ++ (wX7 (aT 1) (va_up aT_1 0 (aT 0)) yT_1 q.2.2.1 ++ (wX6 ((va_up aT_1 0 (aT 0)) 1) aT_1_1 yT_1_1 gT_1_1 ++ (wX4 hT_14 aT_14 yT_14 q.2.2.2.1 ++ (wX0 hT_15 aT_15 yT_15 q.2.2.2.2)))))) q.1) args s 0 0 A) (F0 m 240 ls [.int s0, .int s1, .ref hT_14])
def S_X5_readCam_222 (l : Launch) (D : Dx) (hT : Nat) (aT : Nat → Nat) (yT : Nat → ClassId) (aT_0 : Nat → Nat) (yT_0 : Nat → ClassId) (aT_1 : Nat → Nat) (yT_1 : Nat → ClassId) (aT_1_1 : Nat → Nat) (yT_1_1 : Nat → ClassId) (hT_14 : Nat) (aT_14 : Nat → Nat) (yT_14 : Nat → ClassId) (hT_15 : Nat) (aT_15 : Nat → Nat) (yT_15 : Nat → ClassId) (fn : Gs → Gs → Gs → Gs → Gs → Gs → Int32 → Option (Int32 × Gs × Gs × Gs × Gs)) : Prop :=
  ∀ {p : Program} {e : Env} {s : State} {m : MethodId} {args : Array Value} {below : List Frame} {meth : Method} {c : Code} {H : Heap} {locs : List Loc} {A : Nat → Prop} {ls : Array Slot} {gT : Gs} {gT_0 : Gs} {gT_1 : Gs} {gT_1_1 : Gs} {gT_14 : Gs} {gT_15 : Gs} {v1 : Int32} {q : Int32 × Gs × Gs × Gs × Gs}, Cx p s m args meth c cX5_readCam (some .boolean) 7 RX5 lw_all → Hx D (tX5 yT ++ (tTP yT_0 ++ (tX7 yT_1 ++ (tX6 yT_1_1 ++ (tX4 yT_14 ++ (tX0 yT_15)))))) A s H locs (wX5 hT aT yT gT ++ (wTP (aT 0) aT_0 yT_0 gT_0 ++ (wX7 (aT 1) (va_up aT_1 0 (aT 0)) yT_1 gT_1 ++ (wX6 ((va_up aT_1 0 (aT 0)) 1) aT_1_1 yT_1_1 gT_1_1 ++ (wX4 hT_14 aT_14 yT_14 gT_14 ++ (wX0 hT_15 aT_15 yT_15 gT_15)))))) → lv_has ls 7 [(0, .ref hT), (1, .int v1)] → fn gT gT_0 gT_1 gT_1_1 gT_14 gT_15 v1 = some q → W p l e R_X5_readCam s m args below meth c H locs 0 0 (MQ below (QI D A (wX5 hT aT yT q.2.1 ++ (wTP (aT 0) aT_0 yT_0 gT_0 ++ (wX7 (aT 1) (va_up aT_1 0 (aT 0)) yT_1 q.2.2.1 ++ (wX6 ((va_up aT_1 0 (aT 0)) 1) aT_1_1 yT_1_1 gT_1_1 ++ (wX4 hT_14 aT_14 yT_14 q.2.2.2.1 ++ (wX0 hT_15 aT_15 yT_15 q.2.2.2.2)))))) q.1) args s 0 0 A) (F0 m 222 ls [])
def S_X5_readCam_202 (l : Launch) (D : Dx) (hT : Nat) (aT : Nat → Nat) (yT : Nat → ClassId) (aT_0 : Nat → Nat) (yT_0 : Nat → ClassId) (aT_1 : Nat → Nat) (yT_1 : Nat → ClassId) (aT_1_1 : Nat → Nat) (yT_1_1 : Nat → ClassId) (hT_14 : Nat) (aT_14 : Nat → Nat) (yT_14 : Nat → ClassId) (hT_15 : Nat) (aT_15 : Nat → Nat) (yT_15 : Nat → ClassId) (fn : Gs → Gs → Gs → Gs → Gs → Gs → Int32 → Int32 → Option (Int32 × Gs × Gs × Gs × Gs)) : Prop :=
  ∀ {p : Program} {e : Env} {s : State} {m : MethodId} {args : Array Value} {below : List Frame} {meth : Method} {c : Code} {H : Heap} {locs : List Loc} {A : Nat → Prop} {ls : Array Slot} {gT : Gs} {gT_0 : Gs} {gT_1 : Gs} {gT_1_1 : Gs} {gT_14 : Gs} {gT_15 : Gs} {v1 : Int32} {v3 : Int32} {q : Int32 × Gs × Gs × Gs × Gs}, Cx p s m args meth c cX5_readCam (some .boolean) 7 RX5 lw_all → Hx D (tX5 yT ++ (tTP yT_0 ++ (tX7 yT_1 ++ (tX6 yT_1_1 ++ (tX4 yT_14 ++ (tX0 yT_15)))))) A s H locs (wX5 hT aT yT gT ++ (wTP (aT 0) aT_0 yT_0 gT_0 ++ (wX7 (aT 1) (va_up aT_1 0 (aT 0)) yT_1 gT_1 ++ (wX6 ((va_up aT_1 0 (aT 0)) 1) aT_1_1 yT_1_1 gT_1_1 ++ (wX4 hT_14 aT_14 yT_14 gT_14 ++ (wX0 hT_15 aT_15 yT_15 gT_15)))))) → lv_has ls 7 [(0, .ref hT), (1, .int v1), (3, .int v3)] → fn gT gT_0 gT_1 gT_1_1 gT_14 gT_15 v1 v3 = some q → W p l e R_X5_readCam s m args below meth c H locs 0 0 (MQ below (QI D A (wX5 hT aT yT q.2.1 ++ (wTP (aT 0) aT_0 yT_0 gT_0 ++ (wX7 (aT 1) (va_up aT_1 0 (aT 0)) yT_1 q.2.2.1 ++ (wX6 ((va_up aT_1 0 (aT 0)) 1) aT_1_1 yT_1_1 gT_1_1 ++ (wX4 hT_14 aT_14 yT_14 q.2.2.2.1 ++ (wX0 hT_15 aT_15 yT_15 q.2.2.2.2)))))) q.1) args s 0 0 A) (F0 m 202 ls [])
def S_X5_readCam_189 (l : Launch) (D : Dx) (hT : Nat) (aT : Nat → Nat) (yT : Nat → ClassId) (aT_0 : Nat → Nat) (yT_0 : Nat → ClassId) (aT_1 : Nat → Nat) (yT_1 : Nat → ClassId) (aT_1_1 : Nat → Nat) (yT_1_1 : Nat → ClassId) (hT_14 : Nat) (aT_14 : Nat → Nat) (yT_14 : Nat → ClassId) (hT_15 : Nat) (aT_15 : Nat → Nat) (yT_15 : Nat → ClassId) (fn : Gs → Gs → Gs → Gs → Gs → Gs → Int32 → Int32 → UInt64 → Int32 → Option (Int32 × Gs × Gs × Gs × Gs)) : Prop :=
  ∀ {p : Program} {e : Env} {s : State} {m : MethodId} {args : Array Value} {below : List Frame} {meth : Method} {c : Code} {H : Heap} {locs : List Loc} {A : Nat → Prop} {ls : Array Slot} {gT : Gs} {gT_0 : Gs} {gT_1 : Gs} {gT_1_1 : Gs} {gT_14 : Gs} {gT_15 : Gs} {v1 : Int32} {v3 : Int32} {s0 : UInt64} {s1 : Int32} {q : Int32 × Gs × Gs × Gs × Gs}, Cx p s m args meth c cX5_readCam (some .boolean) 7 RX5 lw_all → Hx D (tX5 yT ++ (tTP yT_0 ++ (tX7 yT_1 ++ (tX6 yT_1_1 ++ (tX4 yT_14 ++ (tX0 yT_15)))))) A s H locs (wX5 hT aT yT gT ++ (wTP (aT 0) aT_0 yT_0 gT_0 ++ (wX7 (aT 1) (va_up aT_1 0 (aT 0)) yT_1 gT_1 ++ (wX6 ((va_up aT_1 0 (aT 0)) 1) aT_1_1 yT_1_1 gT_1_1 ++ (wX4 hT_14 aT_14 yT_14 gT_14 ++ (wX0 hT_15 aT_15 yT_15 gT_15)))))) → lv_has ls 7 [(0, .ref hT), (1, .int v1), (3, .int v3)] → fn gT gT_0 gT_1 gT_1_1 gT_14 gT_15 v1 v3 s0 s1 = some q → W p l e R_X5_readCam s m args below meth c H locs 0 0 (MQ below (QI D A (wX5 hT aT yT q.2.1 ++ (wTP (aT 0) aT_0 yT_0 gT_0 ++ (wX7 (aT 1) (va_up aT_1 0 (aT 0)) yT_1 q.2.2.1 ++ (wX6 ((va_up aT_1 0 (aT 0)) 1) aT_1_1 yT_1_1 gT_1_1 ++ (wX4 hT_14 aT_14 yT_14 q.2.2.2.1 ++ (wX0 hT_15 aT_15 yT_15 q.2.2.2.2)))))) q.1) args s 0 0 A) (F0 m 189 ls [.double s0, .int s1, .ref (aT_14 12)])
def S_X5_readCam_161 (l : Launch) (D : Dx) (hT : Nat) (aT : Nat → Nat) (yT : Nat → ClassId) (aT_0 : Nat → Nat) (yT_0 : Nat → ClassId) (aT_1 : Nat → Nat) (yT_1 : Nat → ClassId) (aT_1_1 : Nat → Nat) (yT_1_1 : Nat → ClassId) (hT_14 : Nat) (aT_14 : Nat → Nat) (yT_14 : Nat → ClassId) (hT_15 : Nat) (aT_15 : Nat → Nat) (yT_15 : Nat → ClassId) (fn : Gs → Gs → Gs → Gs → Gs → Gs → Int32 → Int32 → Int32 → UInt64 → Option (Int32 × Gs × Gs × Gs × Gs)) : Prop :=
  ∀ {p : Program} {e : Env} {s : State} {m : MethodId} {args : Array Value} {below : List Frame} {meth : Method} {c : Code} {H : Heap} {locs : List Loc} {A : Nat → Prop} {ls : Array Slot} {gT : Gs} {gT_0 : Gs} {gT_1 : Gs} {gT_1_1 : Gs} {gT_14 : Gs} {gT_15 : Gs} {v1 : Int32} {v3 : Int32} {v4 : Int32} {s0 : UInt64} {q : Int32 × Gs × Gs × Gs × Gs}, Cx p s m args meth c cX5_readCam (some .boolean) 7 RX5 lw_all → Hx D (tX5 yT ++ (tTP yT_0 ++ (tX7 yT_1 ++ (tX6 yT_1_1 ++ (tX4 yT_14 ++ (tX0 yT_15)))))) A s H locs (wX5 hT aT yT gT ++ (wTP (aT 0) aT_0 yT_0 gT_0 ++ (wX7 (aT 1) (va_up aT_1 0 (aT 0)) yT_1 gT_1 ++ (wX6 ((va_up aT_1 0 (aT 0)) 1) aT_1_1 yT_1_1 gT_1_1 ++ (wX4 hT_14 aT_14 yT_14 gT_14 ++ (wX0 hT_15 aT_15 yT_15 gT_15)))))) → lv_has ls 7 [(0, .ref hT), (1, .int v1), (3, .int v3), (4, .int v4)] → fn gT gT_0 gT_1 gT_1_1 gT_14 gT_15 v1 v3 v4 s0 = some q → W p l e R_X5_readCam s m args below meth c H locs 0 0 (MQ below (QI D A (wX5 hT aT yT q.2.1 ++ (wTP (aT 0) aT_0 yT_0 gT_0 ++ (wX7 (aT 1) (va_up aT_1 0 (aT 0)) yT_1 q.2.2.1 ++ (wX6 ((va_up aT_1 0 (aT 0)) 1) aT_1_1 yT_1_1 gT_1_1 ++ (wX4 hT_14 aT_14 yT_14 q.2.2.2.1 ++ (wX0 hT_15 aT_15 yT_15 q.2.2.2.2)))))) q.1) args s 0 0 A) (F0 m 161 ls [.double s0])
def S_X5_readCam_93 (l : Launch) (D : Dx) (hT : Nat) (aT : Nat → Nat) (yT : Nat → ClassId) (aT_0 : Nat → Nat) (yT_0 : Nat → ClassId) (aT_1 : Nat → Nat) (yT_1 : Nat → ClassId) (aT_1_1 : Nat → Nat) (yT_1_1 : Nat → ClassId) (hT_14 : Nat) (aT_14 : Nat → Nat) (yT_14 : Nat → ClassId) (hT_15 : Nat) (aT_15 : Nat → Nat) (yT_15 : Nat → ClassId) (fn : Gs → Gs → Gs → Gs → Gs → Gs → Int32 → Int32 → Int32 → Option (Int32 × Gs × Gs × Gs × Gs)) : Prop :=
  ∀ {p : Program} {e : Env} {s : State} {m : MethodId} {args : Array Value} {below : List Frame} {meth : Method} {c : Code} {H : Heap} {locs : List Loc} {A : Nat → Prop} {ls : Array Slot} {gT : Gs} {gT_0 : Gs} {gT_1 : Gs} {gT_1_1 : Gs} {gT_14 : Gs} {gT_15 : Gs} {v1 : Int32} {v3 : Int32} {v4 : Int32} {q : Int32 × Gs × Gs × Gs × Gs}, Cx p s m args meth c cX5_readCam (some .boolean) 7 RX5 lw_all → Hx D (tX5 yT ++ (tTP yT_0 ++ (tX7 yT_1 ++ (tX6 yT_1_1 ++ (tX4 yT_14 ++ (tX0 yT_15)))))) A s H locs (wX5 hT aT yT gT ++ (wTP (aT 0) aT_0 yT_0 gT_0 ++ (wX7 (aT 1) (va_up aT_1 0 (aT 0)) yT_1 gT_1 ++ (wX6 ((va_up aT_1 0 (aT 0)) 1) aT_1_1 yT_1_1 gT_1_1 ++ (wX4 hT_14 aT_14 yT_14 gT_14 ++ (wX0 hT_15 aT_15 yT_15 gT_15)))))) → lv_has ls 7 [(0, .ref hT), (1, .int v1), (3, .int v3), (4, .int v4)] → fn gT gT_0 gT_1 gT_1_1 gT_14 gT_15 v1 v3 v4 = some q → W p l e R_X5_readCam s m args below meth c H locs 0 0 (MQ below (QI D A (wX5 hT aT yT q.2.1 ++ (wTP (aT 0) aT_0 yT_0 gT_0 ++ (wX7 (aT 1) (va_up aT_1 0 (aT 0)) yT_1 q.2.2.1 ++ (wX6 ((va_up aT_1 0 (aT 0)) 1) aT_1_1 yT_1_1 gT_1_1 ++ (wX4 hT_14 aT_14 yT_14 q.2.2.2.1 ++ (wX0 hT_15 aT_15 yT_15 q.2.2.2.2)))))) q.1) args s 0 0 A) (F0 m 93 ls [])
def S_X5_readCam_79 (l : Launch) (D : Dx) (hT : Nat) (aT : Nat → Nat) (yT : Nat → ClassId) (aT_0 : Nat → Nat) (yT_0 : Nat → ClassId) (aT_1 : Nat → Nat) (yT_1 : Nat → ClassId) (aT_1_1 : Nat → Nat) (yT_1_1 : Nat → ClassId) (hT_14 : Nat) (aT_14 : Nat → Nat) (yT_14 : Nat → ClassId) (hT_15 : Nat) (aT_15 : Nat → Nat) (yT_15 : Nat → ClassId) (fn : Gs → Gs → Gs → Gs → Gs → Gs → Int32 → Int32 → Int32 → Option (Int32 × Gs × Gs × Gs × Gs)) : Prop :=
  ∀ {p : Program} {e : Env} {s : State} {m : MethodId} {args : Array Value} {below : List Frame} {meth : Method} {c : Code} {H : Heap} {locs : List Loc} {A : Nat → Prop} {ls : Array Slot} {gT : Gs} {gT_0 : Gs} {gT_1 : Gs} {gT_1_1 : Gs} {gT_14 : Gs} {gT_15 : Gs} {v1 : Int32} {v3 : Int32} {s0 : Int32} {q : Int32 × Gs × Gs × Gs × Gs}, Cx p s m args meth c cX5_readCam (some .boolean) 7 RX5 lw_all → Hx D (tX5 yT ++ (tTP yT_0 ++ (tX7 yT_1 ++ (tX6 yT_1_1 ++ (tX4 yT_14 ++ (tX0 yT_15)))))) A s H locs (wX5 hT aT yT gT ++ (wTP (aT 0) aT_0 yT_0 gT_0 ++ (wX7 (aT 1) (va_up aT_1 0 (aT 0)) yT_1 gT_1 ++ (wX6 ((va_up aT_1 0 (aT 0)) 1) aT_1_1 yT_1_1 gT_1_1 ++ (wX4 hT_14 aT_14 yT_14 gT_14 ++ (wX0 hT_15 aT_15 yT_15 gT_15)))))) → lv_has ls 7 [(0, .ref hT), (1, .int v1), (3, .int v3)] → fn gT gT_0 gT_1 gT_1_1 gT_14 gT_15 v1 v3 s0 = some q → W p l e R_X5_readCam s m args below meth c H locs 0 0 (MQ below (QI D A (wX5 hT aT yT q.2.1 ++ (wTP (aT 0) aT_0 yT_0 gT_0 ++ (wX7 (aT 1) (va_up aT_1 0 (aT 0)) yT_1 q.2.2.1 ++ (wX6 ((va_up aT_1 0 (aT 0)) 1) aT_1_1 yT_1_1 gT_1_1 ++ (wX4 hT_14 aT_14 yT_14 q.2.2.2.1 ++ (wX0 hT_15 aT_15 yT_15 q.2.2.2.2)))))) q.1) args s 0 0 A) (F0 m 79 ls [.int s0])
def S_X5_readCam_51 (l : Launch) (D : Dx) (hT : Nat) (aT : Nat → Nat) (yT : Nat → ClassId) (aT_0 : Nat → Nat) (yT_0 : Nat → ClassId) (aT_1 : Nat → Nat) (yT_1 : Nat → ClassId) (aT_1_1 : Nat → Nat) (yT_1_1 : Nat → ClassId) (hT_14 : Nat) (aT_14 : Nat → Nat) (yT_14 : Nat → ClassId) (hT_15 : Nat) (aT_15 : Nat → Nat) (yT_15 : Nat → ClassId) (fn : Gs → Gs → Gs → Gs → Gs → Gs → Int32 → Int32 → Int32 → Option (Int32 × Gs × Gs × Gs × Gs)) : Prop :=
  ∀ {p : Program} {e : Env} {s : State} {m : MethodId} {args : Array Value} {below : List Frame} {meth : Method} {c : Code} {H : Heap} {locs : List Loc} {A : Nat → Prop} {ls : Array Slot} {gT : Gs} {gT_0 : Gs} {gT_1 : Gs} {gT_1_1 : Gs} {gT_14 : Gs} {gT_15 : Gs} {v1 : Int32} {v2 : Int32} {v3 : Int32} {q : Int32 × Gs × Gs × Gs × Gs}, Cx p s m args meth c cX5_readCam (some .boolean) 7 RX5 lw_all → Hx D (tX5 yT ++ (tTP yT_0 ++ (tX7 yT_1 ++ (tX6 yT_1_1 ++ (tX4 yT_14 ++ (tX0 yT_15)))))) A s H locs (wX5 hT aT yT gT ++ (wTP (aT 0) aT_0 yT_0 gT_0 ++ (wX7 (aT 1) (va_up aT_1 0 (aT 0)) yT_1 gT_1 ++ (wX6 ((va_up aT_1 0 (aT 0)) 1) aT_1_1 yT_1_1 gT_1_1 ++ (wX4 hT_14 aT_14 yT_14 gT_14 ++ (wX0 hT_15 aT_15 yT_15 gT_15)))))) → lv_has ls 7 [(0, .ref hT), (1, .int v1), (2, .int v2), (3, .int v3)] → fn gT gT_0 gT_1 gT_1_1 gT_14 gT_15 v1 v2 v3 = some q → W p l e R_X5_readCam s m args below meth c H locs 0 0 (MQ below (QI D A (wX5 hT aT yT q.2.1 ++ (wTP (aT 0) aT_0 yT_0 gT_0 ++ (wX7 (aT 1) (va_up aT_1 0 (aT 0)) yT_1 q.2.2.1 ++ (wX6 ((va_up aT_1 0 (aT 0)) 1) aT_1_1 yT_1_1 gT_1_1 ++ (wX4 hT_14 aT_14 yT_14 q.2.2.2.1 ++ (wX0 hT_15 aT_15 yT_15 q.2.2.2.2)))))) q.1) args s 0 0 A) (F0 m 51 ls [])
def SH_X5_readCam (l : Launch) (D : Dx) (hT : Nat) (aT : Nat → Nat) (yT : Nat → ClassId) (aT_0 : Nat → Nat) (yT_0 : Nat → ClassId) (aT_1 : Nat → Nat) (yT_1 : Nat → ClassId) (aT_1_1 : Nat → Nat) (yT_1_1 : Nat → ClassId) (hT_14 : Nat) (aT_14 : Nat → Nat) (yT_14 : Nat → ClassId) (hT_15 : Nat) (aT_15 : Nat → Nat) (yT_15 : Nat → ClassId) (rec : (Gs → Gs → Gs → Gs → Gs → Gs → Int32 → Int32 → Int32 → Option (Int32 × Gs × Gs × Gs × Gs))) : Prop := S_X5_readCam_51 l D hT aT yT aT_0 yT_0 aT_1 yT_1 aT_1_1 yT_1_1 hT_14 aT_14 yT_14 hT_15 aT_15 yT_15 rec
set_option maxHeartbeats 4000000 in
set_option maxRecDepth 100000 in
theorem k_X5_readCam_240 (l : Launch) (D : Dx) (hT : Nat) (aT : Nat → Nat) (yT : Nat → ClassId) (aT_0 : Nat → Nat) (yT_0 : Nat → ClassId) (aT_1 : Nat → Nat) (yT_1 : Nat → ClassId) (aT_1_1 : Nat → Nat) (yT_1_1 : Nat → ClassId) (hT_14 : Nat) (aT_14 : Nat → Nat) (yT_14 : Nat → ClassId) (hT_15 : Nat) (aT_15 : Nat → Nat) (yT_15 : Nat → ClassId) (n : Nat) (rec : (Gs → Gs → Gs → Gs → Gs → Gs → Int32 → Int32 → Int32 → Option (Int32 × Gs × Gs × Gs × Gs))) (IH : SH_X5_readCam l D hT aT yT aT_0 yT_0 aT_1 yT_1 aT_1_1 yT_1_1 hT_14 aT_14 yT_14 hT_15 aT_15 yT_15 rec) : S_X5_readCam_240 l D hT aT yT aT_0 yT_0 aT_1 yT_1 aT_1_1 yT_1_1 hT_14 aT_14 yT_14 hT_15 aT_15 yT_15 (b_X5_readCam_240 n hT_14 hT_15 rec) := by
  intro p e s m args below meth c H locs A ls gT gT_0 gT_1 gT_1_1 gT_14 gT_15 s0 s1 q C X hl hF
  obtain ⟨hx, hb, hr, hml, hown, hts, hlk⟩ := id C
  unfold b_X5_readCam_240 at hF
  refine lv_iadd hx hb dX5_readCam_240 ?_
  refine va_putN (D := D.1) (ci := 4) (v := .int (s1 + s0)) (ty := .int) (C := RX4) (T := TX4) (N := 14) hx hb hts wi_X4 tyX4 tyX4_ok nmX4 hown X.1 X.2.1 X.2.2.1 X.2.2.2.1 9 rfl rfl 6 (by decide) (X.2.2.2.2.2.1.use q2_93 rfl) (fun _ h9 => h9) rfl (by decide +kernel) rfl rfl (by rw [List.length_map, List.length_range]; decide) dX5_readCam_241 (fun H locs hP hD hS => ?_)
  have X : Hx D (tX5 yT ++ (tTP yT_0 ++ (tX7 yT_1 ++ (tX6 yT_1_1 ++ (tX4 yT_14 ++ (tX0 yT_15)))))) A s H locs (wX5 hT aT yT gT ++ (wTP (aT 0) aT_0 yT_0 gT_0 ++ (wX7 (aT 1) (va_up aT_1 0 (aT 0)) yT_1 gT_1 ++ (wX6 ((va_up aT_1 0 (aT 0)) 1) aT_1_1 yT_1_1 gT_1_1 ++ (wX4 hT_14 aT_14 yT_14 (sI gT_14 6 (s1 + s0)) ++ (wX0 hT_15 aT_15 yT_15 gT_15)))))) := Hx_set X (set_r (n := 5) (i := 4) (j := 9) (wG_len rfl) rfl (set_r (n := 1) (i := 3) (j := 4) (rfl) rfl (set_r (n := 1) (i := 2) (j := 3) (wG_len rfl) rfl (set_r (n := 2) (i := 0) (j := 2) (wG_len rfl) rfl (set_l (by rw [wG_len (m := 11) rfl]; decide) (wG_sI (k := 6) rfl)))))) hP hD hS
  refine lv_aload_n hx hb dX5_readCam_244 rfl (lv_at hl 0 rfl) ?_
  refine lv_bipush (v := (41 : Int32)) hx hb dX5_readCam_245 (by decide) ?_
  obtain ⟨q_9, hc_10, hF⟩ := bnd_some hF
  refine cV_i (As := [.int (41 : Int32)]) (rest := []) C X (c_X5_expect l D hT aT yT aT_0 yT_0 (va_up aT_1 0 (aT 0)) yT_1 aT_1_1 yT_1_1 n gT gT_0 gT_1 gT_1_1 (41 : Int32) q_9 hc_10 _) (cwV 1 hts (good_V q4_78 q4_80 q0_14 q1_10 q4_81) rfl rfl rfl (by decide +kernel) ⟨Nat.le_of_ble_eq_true rfl, Nat.le_of_ble_eq_true rfl⟩) (va_recv X.1 X.2.1 (ci := 5) (q0 := 0) rfl rfl) (X.1.sub (tys' := tX5 yT ++ (tTP yT_0 ++ (tX7 yT_1 ++ (tX6 yT_1_1)))) [0, 1, 2, 3, 4, 5] rfl) (X.2.1.sub (ws' := wX5 hT aT yT gT ++ (wTP (aT 0) aT_0 yT_0 gT_0 ++ (wX7 (aT 1) (va_up aT_1 0 (aT 0)) yT_1 gT_1 ++ (wX6 ((va_up aT_1 0 (aT 0)) 1) aT_1_1 yT_1_1 gT_1_1)))) [0, 1, 2, 3, 4, 5, 6, 7, 8] rfl) (X.2.2.1.sub (ws' := wX5 hT aT yT gT ++ (wTP (aT 0) aT_0 yT_0 gT_0 ++ (wX7 (aT 1) (va_up aT_1 0 (aT 0)) yT_1 gT_1 ++ (wX6 ((va_up aT_1 0 (aT 0)) 1) aT_1_1 yT_1_1 gT_1_1)))) [0, 1, 2, 3, 4, 5, 6, 7, 8] (by decide) rfl) (free_of (wC := wX5 hT aT yT gT ++ (wTP (aT 0) aT_0 yT_0 gT_0 ++ (wX7 (aT 1) (va_up aT_1 0 (aT 0)) yT_1 gT_1 ++ (wX6 ((va_up aT_1 0 (aT 0)) 1) aT_1_1 yT_1_1 gT_1_1)))) (isC := [0, 1, 2, 3, 4, 5, 6, 7, 8]) X rfl) hl.1 rfl rfl (Nat.le_of_ble_eq_true rfl) dX5_readCam_247 ⟨Nat.le_of_ble_eq_true rfl, Nat.le_of_ble_eq_true rfl⟩ (fun t H1 locs1 ht hB hk hS => ?_)
  have X : Hx D (tX5 yT ++ (tTP yT_0 ++ (tX7 yT_1 ++ (tX6 yT_1_1 ++ (tX4 yT_14 ++ (tX0 yT_15)))))) A s H1 locs1 (wX5 hT aT yT gT ++ (wTP (aT 0) aT_0 yT_0 gT_0 ++ (wX7 (aT 1) (va_up aT_1 0 (aT 0)) yT_1 q_9.2 ++ (wX6 ((va_up aT_1 0 (aT 0)) 1) aT_1_1 yT_1_1 gT_1_1 ++ (wX4 hT_14 aT_14 yT_14 (sI gT_14 6 (s1 + s0)) ++ (wX0 hT_15 aT_15 yT_15 gT_15)))))) := Hx_after (isC := [0, 1, 2, 3, 4, 5, 6, 7, 8]) (isR := [9, 10, 11, 12, 13, 14, 15, 16, 17, 18, 19, 20, 21, 22, 23, 24, 25, 26, 27, 28, 29, 30, 31, 32, 33, 34, 35]) (pm := [27, 28, 29, 30, 31, 32, 33, 34, 35, 0, 1, 2, 3, 4, 5, 6, 7, 8, 9, 10, 11, 12, 13, 14, 15, 16, 17, 18, 19, 20, 21, 22, 23, 24, 25, 26]) (wr := wX4 hT_14 aT_14 yT_14 (sI gT_14 6 (s1 + s0)) ++ (wX0 hT_15 aT_15 yT_15 gT_15)) X ⟨rfl, rfl, by decide, by decide, rfl, by decide⟩ ht hB hk hS
  clear hk hS ht hB
  generalize H1 = H at X ⊢
  generalize locs1 = locs at X ⊢
  obtain ⟨h_11, hF⟩ := grd_some hF
  have hq := Option.some.inj hF
  subst hq
  exact rt_z (v := q_9.1) C X (zB_n h_11) dX5_readCam_250
set_option maxHeartbeats 4000000 in
set_option maxRecDepth 100000 in
theorem k_X5_readCam_222 (l : Launch) (D : Dx) (hT : Nat) (aT : Nat → Nat) (yT : Nat → ClassId) (aT_0 : Nat → Nat) (yT_0 : Nat → ClassId) (aT_1 : Nat → Nat) (yT_1 : Nat → ClassId) (aT_1_1 : Nat → Nat) (yT_1_1 : Nat → ClassId) (hT_14 : Nat) (aT_14 : Nat → Nat) (yT_14 : Nat → ClassId) (hT_15 : Nat) (aT_15 : Nat → Nat) (yT_15 : Nat → ClassId) (n : Nat) (rec : (Gs → Gs → Gs → Gs → Gs → Gs → Int32 → Int32 → Int32 → Option (Int32 × Gs × Gs × Gs × Gs))) (IH : SH_X5_readCam l D hT aT yT aT_0 yT_0 aT_1 yT_1 aT_1_1 yT_1_1 hT_14 aT_14 yT_14 hT_15 aT_15 yT_15 rec) : S_X5_readCam_222 l D hT aT yT aT_0 yT_0 aT_1 yT_1 aT_1_1 yT_1_1 hT_14 aT_14 yT_14 hT_15 aT_15 yT_15 (b_X5_readCam_222 n hT_14 hT_15 rec) := by
  intro p e s m args below meth c H locs A ls gT gT_0 gT_1 gT_1_1 gT_14 gT_15 v1 q C X hl hF
  obtain ⟨hx, hb, hr, hml, hown, hts, hlk⟩ := id C
  unfold b_X5_readCam_222 at hF
  refine lv_aload_n hx hb dX5_readCam_222 rfl (lv_at hl 0 rfl) ?_
  obtain ⟨h_8, hF⟩ := grd_some hF
  refine va_get (D := D.1) (ci := 5) (v := .ref hT_14) (C := RX5) (T := TX5) (N := 18) hx hb hts wi_X5 hown X.1 X.2.1 0 rfl rfl 14 (by decide) (hts _ q3_65) (fun _ h9 => h9) ((fl_get (by decide)).trans (rf_eq h_8)) dX5_readCam_223 ?_
  refine lv_dup hx hb dX5_readCam_226 rfl ?_
  refine va_getN (D := D.1) (ci := 4) (v := .int (gI gT_14 6)) (C := RX4) (T := TX4) (N := 14) hx hb hts wi_X4 hown X.1 X.2.1 9 rfl rfl 6 (by decide) (X.2.2.2.2.2.1.use q2_93 rfl) (fun _ h9 => h9) (fl_get (by decide)) dX5_readCam_227 ?_
  refine lv_iload_n hx hb dX5_readCam_230 rfl (lv_at hl 1 rfl) ?_
  refine lv_iconst (v := (-1 : Int32)) hx hb dX5_readCam_231 (by decide) ?_
  refine lv_icmp_ne (tgt := 239) hx hb dX5_readCam_232 (by decide) (fun c => ?_) (fun c => ?_)
  · replace hF := iF c hF
    refine lv_iconst (v := (1 : Int32)) hx hb dX5_readCam_239 (by decide) ?_
    exact (k_X5_readCam_240 l D hT aT yT aT_0 yT_0 aT_1 yT_1 aT_1_1 yT_1_1 hT_14 aT_14 yT_14 hT_15 aT_15 yT_15 n rec IH) C X (lv_sub hl [0] rfl) hF
  · replace hF := iT c hF
    refine lv_iconst (v := (0 : Int32)) hx hb dX5_readCam_235 (by decide) ?_
    refine lv_goto (tgt := 240) hx hb dX5_readCam_236 (by decide) ?_
    exact (k_X5_readCam_240 l D hT aT yT aT_0 yT_0 aT_1 yT_1 aT_1_1 yT_1_1 hT_14 aT_14 yT_14 hT_15 aT_15 yT_15 n rec IH) C X (lv_sub hl [0] rfl) hF
set_option maxHeartbeats 4000000 in
set_option maxRecDepth 100000 in
theorem k_X5_readCam_202 (l : Launch) (D : Dx) (hT : Nat) (aT : Nat → Nat) (yT : Nat → ClassId) (aT_0 : Nat → Nat) (yT_0 : Nat → ClassId) (aT_1 : Nat → Nat) (yT_1 : Nat → ClassId) (aT_1_1 : Nat → Nat) (yT_1_1 : Nat → ClassId) (hT_14 : Nat) (aT_14 : Nat → Nat) (yT_14 : Nat → ClassId) (hT_15 : Nat) (aT_15 : Nat → Nat) (yT_15 : Nat → ClassId) (n : Nat) (rec : (Gs → Gs → Gs → Gs → Gs → Gs → Int32 → Int32 → Int32 → Option (Int32 × Gs × Gs × Gs × Gs))) (IH : SH_X5_readCam l D hT aT yT aT_0 yT_0 aT_1 yT_1 aT_1_1 yT_1_1 hT_14 aT_14 yT_14 hT_15 aT_15 yT_15 rec) : S_X5_readCam_202 l D hT aT yT aT_0 yT_0 aT_1 yT_1 aT_1_1 yT_1_1 hT_14 aT_14 yT_14 hT_15 aT_15 yT_15 (b_X5_readCam_202 n hT_14 hT_15 rec) := by
  intro p e s m args below meth c H locs A ls gT gT_0 gT_1 gT_1_1 gT_14 gT_15 v1 v3 q C X hl hF
  obtain ⟨hx, hb, hr, hml, hown, hts, hlk⟩ := id C
  unfold b_X5_readCam_202 at hF
  refine lv_aload_n hx hb dX5_readCam_202 rfl (lv_at hl 0 rfl) ?_
  refine va_get (D := D.1) (ci := 5) (v := .ref (aT 1)) (C := RX5) (T := TX5) (N := 18) hx hb hts wi_X5 hown X.1 X.2.1 0 rfl rfl 1 (by decide) (hts _ q3_52) (fun _ h9 => h9) (fl_get (by decide)) dX5_readCam_203 ?_
  obtain ⟨q_12, hc_13, hF⟩ := bnd_some hF
  refine cV_v (As := []) (rest := []) C X (c_X7_advance l D (aT 1) (va_up aT_1 0 (aT 0)) yT_1 aT_0 yT_0 aT_1_1 yT_1_1 n gT_1 gT_0 gT_1_1 q_12 hc_13 _) (cwV 0 hts (good_V q4_61 q3_131 q3_132 q1_12 q3_133) rfl rfl rfl (by decide +kernel) ⟨Nat.le_of_ble_eq_true rfl, Nat.le_of_ble_eq_true rfl⟩) (va_recv X.1 X.2.1 (ci := 7) (q0 := 6) rfl rfl) (X.1.sub (tys' := tX7 yT_1 ++ (tTP yT_0 ++ (tX6 yT_1_1))) [4, 5] rfl) (X.2.1.sub (ws' := wX7 (aT 1) (va_up aT_1 0 (aT 0)) yT_1 gT_1 ++ (wTP (aT 0) aT_0 yT_0 gT_0 ++ (wX6 ((va_up aT_1 0 (aT 0)) 1) aT_1_1 yT_1_1 gT_1_1))) [6, 5, 7, 8] rfl) (X.2.2.1.sub (ws' := wX7 (aT 1) (va_up aT_1 0 (aT 0)) yT_1 gT_1 ++ (wTP (aT 0) aT_0 yT_0 gT_0 ++ (wX6 ((va_up aT_1 0 (aT 0)) 1) aT_1_1 yT_1_1 gT_1_1))) [6, 5, 7, 8] (by decide) rfl) (free_of (wC := wX7 (aT 1) (va_up aT_1 0 (aT 0)) yT_1 gT_1 ++ (wTP (aT 0) aT_0 yT_0 gT_0 ++ (wX6 ((va_up aT_1 0 (aT 0)) 1) aT_1_1 yT_1_1 gT_1_1))) (isC := [6, 5, 7, 8]) X rfl) hl.1 rfl rfl (Nat.le_of_ble_eq_true rfl) dX5_readCam_206 ⟨Nat.le_of_ble_eq_true rfl, Nat.le_of_ble_eq_true rfl⟩ (fun t H1 locs1 ht hB hk hS => ?_)
  have X : Hx D (tX5 yT ++ (tTP yT_0 ++ (tX7 yT_1 ++ (tX6 yT_1_1 ++ (tX4 yT_14 ++ (tX0 yT_15)))))) A s H1 locs1 (wX5 hT aT yT gT ++ (wTP (aT 0) aT_0 yT_0 gT_0 ++ (wX7 (aT 1) (va_up aT_1 0 (aT 0)) yT_1 q_12 ++ (wX6 ((va_up aT_1 0 (aT 0)) 1) aT_1_1 yT_1_1 gT_1_1 ++ (wX4 hT_14 aT_14 yT_14 gT_14 ++ (wX0 hT_15 aT_15 yT_15 gT_15)))))) := Hx_after (isC := [6, 5, 7, 8]) (isR := [0, 1, 2, 3, 4, 9, 10, 11, 12, 13, 14, 15, 16, 17, 18, 19, 20, 21, 22, 23, 24, 25, 26, 27, 28, 29, 30, 31, 32, 33, 34, 35]) (pm := [0, 1, 2, 3, 4, 33, 32, 34, 35, 5, 6, 7, 8, 9, 10, 11, 12, 13, 14, 15, 16, 17, 18, 19, 20, 21, 22, 23, 24, 25, 26, 27, 28, 29, 30, 31]) (wr := wX5 hT aT yT gT ++ (wX4 hT_14 aT_14 yT_14 gT_14 ++ (wX0 hT_15 aT_15 yT_15 gT_15))) X ⟨rfl, rfl, by decide, by decide, rfl, by decide⟩ ht hB hk hS
  clear hk hS ht hB
  generalize H1 = H at X ⊢
  generalize locs1 = locs at X ⊢
  refine lv_aload_n hx hb dX5_readCam_209 rfl (lv_at hl 0 rfl) ?_
  refine lv_bipush (v := (42 : Int32)) hx hb dX5_readCam_210 (by decide) ?_
  obtain ⟨q_14, hc_15, hF⟩ := bnd_some hF
  refine cV_i (As := [.int (42 : Int32)]) (rest := []) C X (c_X5_expect l D hT aT yT aT_0 yT_0 (va_up aT_1 0 (aT 0)) yT_1 aT_1_1 yT_1_1 n gT gT_0 q_12 gT_1_1 (42 : Int32) q_14 hc_15 _) (cwV 1 hts (good_V q4_78 q4_80 q0_14 q1_10 q4_81) rfl rfl rfl (by decide +kernel) ⟨Nat.le_of_ble_eq_true rfl, Nat.le_of_ble_eq_true rfl⟩) (va_recv X.1 X.2.1 (ci := 5) (q0 := 0) rfl rfl) (X.1.sub (tys' := tX5 yT ++ (tTP yT_0 ++ (tX7 yT_1 ++ (tX6 yT_1_1)))) [0, 1, 2, 3, 4, 5] rfl) (X.2.1.sub (ws' := wX5 hT aT yT gT ++ (wTP (aT 0) aT_0 yT_0 gT_0 ++ (wX7 (aT 1) (va_up aT_1 0 (aT 0)) yT_1 q_12 ++ (wX6 ((va_up aT_1 0 (aT 0)) 1) aT_1_1 yT_1_1 gT_1_1)))) [0, 1, 2, 3, 4, 5, 6, 7, 8] rfl) (X.2.2.1.sub (ws' := wX5 hT aT yT gT ++ (wTP (aT 0) aT_0 yT_0 gT_0 ++ (wX7 (aT 1) (va_up aT_1 0 (aT 0)) yT_1 q_12 ++ (wX6 ((va_up aT_1 0 (aT 0)) 1) aT_1_1 yT_1_1 gT_1_1)))) [0, 1, 2, 3, 4, 5, 6, 7, 8] (by decide) rfl) (free_of (wC := wX5 hT aT yT gT ++ (wTP (aT 0) aT_0 yT_0 gT_0 ++ (wX7 (aT 1) (va_up aT_1 0 (aT 0)) yT_1 q_12 ++ (wX6 ((va_up aT_1 0 (aT 0)) 1) aT_1_1 yT_1_1 gT_1_1)))) (isC := [0, 1, 2, 3, 4, 5, 6, 7, 8]) X rfl) hl.1 rfl rfl (Nat.le_of_ble_eq_true rfl) dX5_readCam_212 ⟨Nat.le_of_ble_eq_true rfl, Nat.le_of_ble_eq_true rfl⟩ (fun t H1 locs1 ht hB hk hS => ?_)
  have X : Hx D (tX5 yT ++ (tTP yT_0 ++ (tX7 yT_1 ++ (tX6 yT_1_1 ++ (tX4 yT_14 ++ (tX0 yT_15)))))) A s H1 locs1 (wX5 hT aT yT gT ++ (wTP (aT 0) aT_0 yT_0 gT_0 ++ (wX7 (aT 1) (va_up aT_1 0 (aT 0)) yT_1 q_14.2 ++ (wX6 ((va_up aT_1 0 (aT 0)) 1) aT_1_1 yT_1_1 gT_1_1 ++ (wX4 hT_14 aT_14 yT_14 gT_14 ++ (wX0 hT_15 aT_15 yT_15 gT_15)))))) := Hx_after (isC := [0, 1, 2, 3, 4, 5, 6, 7, 8]) (isR := [9, 10, 11, 12, 13, 14, 15, 16, 17, 18, 19, 20, 21, 22, 23, 24, 25, 26, 27, 28, 29, 30, 31, 32, 33, 34, 35]) (pm := [27, 28, 29, 30, 31, 32, 33, 34, 35, 0, 1, 2, 3, 4, 5, 6, 7, 8, 9, 10, 11, 12, 13, 14, 15, 16, 17, 18, 19, 20, 21, 22, 23, 24, 25, 26]) (wr := wX4 hT_14 aT_14 yT_14 gT_14 ++ (wX0 hT_15 aT_15 yT_15 gT_15)) X ⟨rfl, rfl, by decide, by decide, rfl, by decide⟩ ht hB hk hS
  clear hk hS ht hB
  generalize H1 = H at X ⊢
  generalize locs1 = locs at X ⊢
  refine lv_istore_n (lv' := [(2, .int q_14.1), (0, .ref hT), (1, .int v1), (3, .int v3)]) hx hb dX5_readCam_215 rfl hl (by decide) rfl (fun ls hl => ?_)
  refine lv_iinc (v := v3 + (1 : Int32)) (lv' := [(3, .int (v3 + (1 : Int32))), (2, .int q_14.1), (0, .ref hT), (1, .int v1)]) hx hb dX5_readCam_216 hl (k := 3) rfl rfl (by decide) rfl (fun ls hl => ?_)
  refine lv_goto (tgt := 51) hx hb dX5_readCam_219 (by decide) ?_
  exact IH C X (lv_sub hl [2, 3, 1, 0] rfl) hF
set_option maxHeartbeats 4000000 in
set_option maxRecDepth 100000 in
theorem k_X5_readCam_189 (l : Launch) (D : Dx) (hT : Nat) (aT : Nat → Nat) (yT : Nat → ClassId) (aT_0 : Nat → Nat) (yT_0 : Nat → ClassId) (aT_1 : Nat → Nat) (yT_1 : Nat → ClassId) (aT_1_1 : Nat → Nat) (yT_1_1 : Nat → ClassId) (hT_14 : Nat) (aT_14 : Nat → Nat) (yT_14 : Nat → ClassId) (hT_15 : Nat) (aT_15 : Nat → Nat) (yT_15 : Nat → ClassId) (n : Nat) (rec : (Gs → Gs → Gs → Gs → Gs → Gs → Int32 → Int32 → Int32 → Option (Int32 × Gs × Gs × Gs × Gs))) (IH : SH_X5_readCam l D hT aT yT aT_0 yT_0 aT_1 yT_1 aT_1_1 yT_1_1 hT_14 aT_14 yT_14 hT_15 aT_15 yT_15 rec) : S_X5_readCam_189 l D hT aT yT aT_0 yT_0 aT_1 yT_1 aT_1_1 yT_1_1 hT_14 aT_14 yT_14 hT_15 aT_15 yT_15 (b_X5_readCam_189 n hT_14 hT_15 rec) := by
  intro p e s m args below meth c H locs A ls gT gT_0 gT_1 gT_1_1 gT_14 gT_15 v1 v3 s0 s1 q C X hl hF
  obtain ⟨hx, hb, hr, hml, hown, hts, hlk⟩ := id C
  unfold b_X5_readCam_189 at hF
  obtain ⟨h_17, hF⟩ := grd_some hF
  refine va_dast (D := D.1) (f := gDA gT_14 12) hx hb X.1 X.2.1 X.2.2.1 X.2.2.2.1 18 14 rfl rfl (inB_ok h_17) dX5_readCam_189 (fun H locs hP hD hS => ?_)
  have X : Hx D (tX5 yT ++ (tTP yT_0 ++ (tX7 yT_1 ++ (tX6 yT_1_1 ++ (tX4 yT_14 ++ (tX0 yT_15)))))) A s H locs (wX5 hT aT yT gT ++ (wTP (aT 0) aT_0 yT_0 gT_0 ++ (wX7 (aT 1) (va_up aT_1 0 (aT 0)) yT_1 gT_1 ++ (wX6 ((va_up aT_1 0 (aT 0)) 1) aT_1_1 yT_1_1 gT_1_1 ++ (wX4 hT_14 aT_14 yT_14 (sDA gT_14 12 (vf_upd (gDA gT_14 12) s1.toNatClampNeg s0)) ++ (wX0 hT_15 aT_15 yT_15 gT_15)))))) := Hx_set X (set_r (n := 5) (i := 13) (j := 18) (wG_len rfl) rfl (set_r (n := 1) (i := 12) (j := 13) (rfl) rfl (set_r (n := 1) (i := 11) (j := 12) (wG_len rfl) rfl (set_r (n := 2) (i := 9) (j := 11) (wG_len rfl) rfl (set_l (by rw [wG_len (m := 11) rfl]; decide) (wG_sDA (i := 8) (k := 12) ndX4 rfl rfl)))))) hP hD hS
  refine lv_aload_n hx hb dX5_readCam_190 rfl (lv_at hl 0 rfl) ?_
  obtain ⟨h_18, hF⟩ := grd_some hF
  refine va_get (D := D.1) (ci := 5) (v := .ref hT_14) (C := RX5) (T := TX5) (N := 18) hx hb hts wi_X5 hown X.1 X.2.1 0 rfl rfl 14 (by decide) (hts _ q3_65) (fun _ h9 => h9) ((fl_get (by decide)).trans (rf_eq h_18)) dX5_readCam_191 ?_
  refine va_getN (D := D.1) (ci := 4) (v := .ref (aT_14 13)) (C := RX4) (T := TX4) (N := 14) hx hb hts wi_X4 hown X.1 X.2.1 9 rfl rfl 13 (by decide) (X.2.2.2.2.2.1.use q2_116 rfl) (fun _ h9 => h9) (fl_get (by decide)) dX5_readCam_194 ?_
  refine lv_iload_n hx hb dX5_readCam_197 rfl (lv_at hl 1 rfl) ?_
  refine lv_iload_n hx hb dX5_readCam_198 rfl (lv_at hl 2 rfl) ?_
  refine lv_iconst (v := (1 : Int32)) hx hb dX5_readCam_199 (by decide) ?_
  refine lv_iadd hx hb dX5_readCam_200 ?_
  obtain ⟨h_19, hF⟩ := grd_some hF
  refine va_iast (D := D.1) (f := gIA gT_14 13) hx hb X.1 X.2.1 X.2.2.1 X.2.2.2.1 19 15 rfl rfl (inB_ok h_19) dX5_readCam_201 (fun H locs hP hD hS => ?_)
  have X : Hx D (tX5 yT ++ (tTP yT_0 ++ (tX7 yT_1 ++ (tX6 yT_1_1 ++ (tX4 yT_14 ++ (tX0 yT_15)))))) A s H locs (wX5 hT aT yT gT ++ (wTP (aT 0) aT_0 yT_0 gT_0 ++ (wX7 (aT 1) (va_up aT_1 0 (aT 0)) yT_1 gT_1 ++ (wX6 ((va_up aT_1 0 (aT 0)) 1) aT_1_1 yT_1_1 gT_1_1 ++ (wX4 hT_14 aT_14 yT_14 (sIA (sDA gT_14 12 (vf_upd (gDA gT_14 12) s1.toNatClampNeg s0)) 13 (upd (gIA gT_14 13) v1.toNatClampNeg (v3 + (1 : Int32)))) ++ (wX0 hT_15 aT_15 yT_15 gT_15)))))) := Hx_set X (set_r (n := 5) (i := 14) (j := 19) (wG_len rfl) rfl (set_r (n := 1) (i := 13) (j := 14) (rfl) rfl (set_r (n := 1) (i := 12) (j := 13) (wG_len rfl) rfl (set_r (n := 2) (i := 10) (j := 12) (wG_len rfl) rfl (set_l (by rw [wG_len (m := 11) rfl]; decide) (wG_sIA (i := 9) (k := 13) ndX4 rfl rfl)))))) hP hD hS
  exact (k_X5_readCam_202 l D hT aT yT aT_0 yT_0 aT_1 yT_1 aT_1_1 yT_1_1 hT_14 aT_14 yT_14 hT_15 aT_15 yT_15 n rec IH) C X (lv_sub hl [0, 1, 2] rfl) hF
set_option maxHeartbeats 4000000 in
set_option maxRecDepth 100000 in
theorem k_X5_readCam_161 (l : Launch) (D : Dx) (hT : Nat) (aT : Nat → Nat) (yT : Nat → ClassId) (aT_0 : Nat → Nat) (yT_0 : Nat → ClassId) (aT_1 : Nat → Nat) (yT_1 : Nat → ClassId) (aT_1_1 : Nat → Nat) (yT_1_1 : Nat → ClassId) (hT_14 : Nat) (aT_14 : Nat → Nat) (yT_14 : Nat → ClassId) (hT_15 : Nat) (aT_15 : Nat → Nat) (yT_15 : Nat → ClassId) (n : Nat) (rec : (Gs → Gs → Gs → Gs → Gs → Gs → Int32 → Int32 → Int32 → Option (Int32 × Gs × Gs × Gs × Gs))) (IH : SH_X5_readCam l D hT aT yT aT_0 yT_0 aT_1 yT_1 aT_1_1 yT_1_1 hT_14 aT_14 yT_14 hT_15 aT_15 yT_15 rec) : S_X5_readCam_161 l D hT aT yT aT_0 yT_0 aT_1 yT_1 aT_1_1 yT_1_1 hT_14 aT_14 yT_14 hT_15 aT_15 yT_15 (b_X5_readCam_161 n hT_14 hT_15 rec) := by
  intro p e s m args below meth c H locs A ls gT gT_0 gT_1 gT_1_1 gT_14 gT_15 v1 v3 v4 s0 q C X hl hF
  obtain ⟨hx, hb, hr, hml, hown, hts, hlk⟩ := id C
  unfold b_X5_readCam_161 at hF
  refine lv_dstore (lv' := [(5, .double s0), (0, .ref hT), (1, .int v1), (3, .int v3), (4, .int v4)]) hx hb dX5_readCam_161 hl (by decide) rfl (fun ls hl => ?_)
  refine lv_aload_n hx hb dX5_readCam_163 rfl (lv_at hl 1 rfl) ?_
  obtain ⟨h_16, hF⟩ := grd_some hF
  refine va_get (D := D.1) (ci := 5) (v := .ref hT_14) (C := RX5) (T := TX5) (N := 18) hx hb hts wi_X5 hown X.1 X.2.1 0 rfl rfl 14 (by decide) (hts _ q3_65) (fun _ h9 => h9) ((fl_get (by decide)).trans (rf_eq h_16)) dX5_readCam_164 ?_
  refine va_getN (D := D.1) (ci := 4) (v := .ref (aT_14 12)) (C := RX4) (T := TX4) (N := 14) hx hb hts wi_X4 hown X.1 X.2.1 9 rfl rfl 12 (by decide) (X.2.2.2.2.2.1.use q2_113 rfl) (fun _ h9 => h9) (fl_get (by decide)) dX5_readCam_167 ?_
  refine lv_iload_n hx hb dX5_readCam_170 rfl (lv_at hl 2 rfl) ?_
  refine lv_bipush (v := (24 : Int32)) hx hb dX5_readCam_171 (by decide) ?_
  refine lv_imul hx hb dX5_readCam_173 ?_
  refine lv_iload_n hx hb dX5_readCam_174 rfl (lv_at hl 3 rfl) ?_
  refine lv_iadd hx hb dX5_readCam_175 ?_
  refine lv_iload hx hb dX5_readCam_176 (lv_at hl 4 rfl) ?_
  refine lv_if_eq (tgt := 187) hx hb dX5_readCam_178 (by decide) (fun c => ?_) (fun c => ?_)
  · replace hF := iT c hF
    refine lv_dload hx hb dX5_readCam_187 (lv_at hl 0 rfl) ?_
    exact (k_X5_readCam_189 l D hT aT yT aT_0 yT_0 aT_1 yT_1 aT_1_1 yT_1_1 hT_14 aT_14 yT_14 hT_15 aT_15 yT_15 n rec IH) C X (lv_sub hl [1, 2, 3] rfl) hF
  · replace hF := iF c hF
    refine lv_dload hx hb dX5_readCam_181 (lv_at hl 0 rfl) ?_
    refine lv_dneg hx hb dX5_readCam_183 ?_
    refine lv_goto (tgt := 189) hx hb dX5_readCam_184 (by decide) ?_
    exact (k_X5_readCam_189 l D hT aT yT aT_0 yT_0 aT_1 yT_1 aT_1_1 yT_1_1 hT_14 aT_14 yT_14 hT_15 aT_15 yT_15 n rec IH) C X (lv_sub hl [1, 2, 3] rfl) hF
set_option maxHeartbeats 4000000 in
set_option maxRecDepth 100000 in
theorem k_X5_readCam_93 (l : Launch) (D : Dx) (hT : Nat) (aT : Nat → Nat) (yT : Nat → ClassId) (aT_0 : Nat → Nat) (yT_0 : Nat → ClassId) (aT_1 : Nat → Nat) (yT_1 : Nat → ClassId) (aT_1_1 : Nat → Nat) (yT_1_1 : Nat → ClassId) (hT_14 : Nat) (aT_14 : Nat → Nat) (yT_14 : Nat → ClassId) (hT_15 : Nat) (aT_15 : Nat → Nat) (yT_15 : Nat → ClassId) (n : Nat) (rec : (Gs → Gs → Gs → Gs → Gs → Gs → Int32 → Int32 → Int32 → Option (Int32 × Gs × Gs × Gs × Gs))) (IH : SH_X5_readCam l D hT aT yT aT_0 yT_0 aT_1 yT_1 aT_1_1 yT_1_1 hT_14 aT_14 yT_14 hT_15 aT_15 yT_15 rec) : S_X5_readCam_93 l D hT aT yT aT_0 yT_0 aT_1 yT_1 aT_1_1 yT_1_1 hT_14 aT_14 yT_14 hT_15 aT_15 yT_15 (b_X5_readCam_93 n hT_14 hT_15 rec) := by
  intro p e s m args below meth c H locs A ls gT gT_0 gT_1 gT_1_1 gT_14 gT_15 v1 v3 v4 q C X hl hF
  obtain ⟨hx, hb, hr, hml, hown, hts, hlk⟩ := id C
  unfold b_X5_readCam_93 at hF
  refine lv_aload_n hx hb dX5_readCam_93 rfl (lv_at hl 0 rfl) ?_
  refine va_get (D := D.1) (ci := 5) (v := .ref (aT 1)) (C := RX5) (T := TX5) (N := 18) hx hb hts wi_X5 hown X.1 X.2.1 0 rfl rfl 1 (by decide) (hts _ q3_52) (fun _ h9 => h9) (fl_get (by decide)) dX5_readCam_94 ?_
  refine va_getN (D := D.1) (ci := 7) (v := .int (gI gT_1 4)) (C := RX7) (T := TX7) (N := 12) hx hb hts wi_X7 hown X.1 X.2.1 6 rfl rfl 4 (by decide) (X.2.2.2.2.2.1.use q3_0 rfl) (fun _ h9 => h9) (fl_get (by decide)) dX5_readCam_97 ?_
  refine lv_iconst (v := (3 : Int32)) hx hb dX5_readCam_100 (by decide) ?_
  refine lv_icmp_eq (tgt := 106) hx hb dX5_readCam_101 (by decide) (fun c => ?_) (fun c => ?_)
  · replace hF := iT c hF
    refine lv_iload_n hx hb dX5_readCam_106 rfl (lv_at hl 2 rfl) ?_
    refine lv_bipush (v := (24 : Int32)) hx hb dX5_readCam_107 (by decide) ?_
    refine lv_icmp_lt (tgt := 126) hx hb dX5_readCam_109 (by decide) (fun c => ?_) (fun c => ?_)
    · replace hF := iT c hF
      refine lv_iload_n hx hb dX5_readCam_126 rfl (lv_at hl 1 rfl) ?_
      refine lv_iconst (v := (-1 : Int32)) hx hb dX5_readCam_127 (by decide) ?_
      refine lv_icmp_eq (tgt := 202) hx hb dX5_readCam_128 (by decide) (fun c => ?_) (fun c => ?_)
      · replace hF := iT c hF
        exact (k_X5_readCam_202 l D hT aT yT aT_0 yT_0 aT_1 yT_1 aT_1_1 yT_1_1 hT_14 aT_14 yT_14 hT_15 aT_15 yT_15 n rec IH) C X (lv_sub hl [0, 1, 2] rfl) hF
      · replace hF := iF c hF
        refine lv_aload_n hx hb dX5_readCam_131 rfl (lv_at hl 0 rfl) ?_
        refine va_get (D := D.1) (ci := 5) (v := .ref (aT 1)) (C := RX5) (T := TX5) (N := 18) hx hb hts wi_X5 hown X.1 X.2.1 0 rfl rfl 1 (by decide) (hts _ q3_52) (fun _ h9 => h9) (fl_get (by decide)) dX5_readCam_132 ?_
        refine va_getN (D := D.1) (ci := 7) (v := .int (gI gT_1 7)) (C := RX7) (T := TX7) (N := 12) hx hb hts wi_X7 hown X.1 X.2.1 6 rfl rfl 7 (by decide) (X.2.2.2.2.2.1.use q3_6 rfl) (fun _ h9 => h9) (fl_get (by decide)) dX5_readCam_135 ?_
        refine lv_bipush (v := (6 : Int32)) hx hb dX5_readCam_138 (by decide) ?_
        refine lv_icmp_lt (tgt := 153) hx hb dX5_readCam_140 (by decide) (fun c => ?_) (fun c => ?_)
        · replace hF := iT c hF
          refine lv_aload_n hx hb dX5_readCam_153 rfl (lv_at hl 0 rfl) ?_
          refine va_get (D := D.1) (ci := 5) (v := .ref (aT 1)) (C := RX5) (T := TX5) (N := 18) hx hb hts wi_X5 hown X.1 X.2.1 0 rfl rfl 1 (by decide) (hts _ q3_52) (fun _ h9 => h9) (fl_get (by decide)) dX5_readCam_154 ?_
          refine va_getN (D := D.1) (ci := 7) (v := .long (gL gT_1 8)) (C := RX7) (T := TX7) (N := 12) hx hb hts wi_X7 hown X.1 X.2.1 6 rfl rfl 8 (by decide) (X.2.2.2.2.2.1.use q3_8 rfl) (fun _ h9 => h9) (fl_get (by decide)) dX5_readCam_157 ?_
          refine lv_l2d hx hb dX5_readCam_160 ?_
          exact (k_X5_readCam_161 l D hT aT yT aT_0 yT_0 aT_1 yT_1 aT_1_1 yT_1_1 hT_14 aT_14 yT_14 hT_15 aT_15 yT_15 n rec IH) C X (lv_sub hl [0, 1, 2, 3] rfl) hF
        · replace hF := iF c hF
          refine lv_aload_n hx hb dX5_readCam_143 rfl (lv_at hl 0 rfl) ?_
          refine va_get (D := D.1) (ci := 5) (v := .ref (aT 1)) (C := RX5) (T := TX5) (N := 18) hx hb hts wi_X5 hown X.1 X.2.1 0 rfl rfl 1 (by decide) (hts _ q3_52) (fun _ h9 => h9) (fl_get (by decide)) dX5_readCam_144 ?_
          refine va_getN (D := D.1) (ci := 7) (v := .double (gD gT_1 9)) (C := RX7) (T := TX7) (N := 12) hx hb hts wi_X7 hown X.1 X.2.1 6 rfl rfl 9 (by decide) (X.2.2.2.2.2.1.use q3_10 rfl) (fun _ h9 => h9) (fl_get (by decide)) dX5_readCam_147 ?_
          refine lv_goto (tgt := 161) hx hb dX5_readCam_150 (by decide) ?_
          exact (k_X5_readCam_161 l D hT aT yT aT_0 yT_0 aT_1 yT_1 aT_1_1 yT_1_1 hT_14 aT_14 yT_14 hT_15 aT_15 yT_15 n rec IH) C X (lv_sub hl [0, 1, 2, 3] rfl) hF
    · replace hF := iF c hF
      refine lv_aload_n hx hb dX5_readCam_112 rfl (lv_at hl 0 rfl) ?_
      refine lv_aload_n hx hb dX5_readCam_113 rfl (lv_at hl 0 rfl) ?_
      refine va_get (D := D.1) (ci := 5) (v := .ref (aT 1)) (C := RX5) (T := TX5) (N := 18) hx hb hts wi_X5 hown X.1 X.2.1 0 rfl rfl 1 (by decide) (hts _ q3_52) (fun _ h9 => h9) (fl_get (by decide)) dX5_readCam_114 ?_
      refine va_getN (D := D.1) (ci := 7) (v := .int (gI gT_1 5)) (C := RX7) (T := TX7) (N := 12) hx hb hts wi_X7 hown X.1 X.2.1 6 rfl rfl 5 (by decide) (X.2.2.2.2.2.1.use q3_2 rfl) (fun _ h9 => h9) (fl_get (by decide)) dX5_readCam_117 ?_
      obtain ⟨q_20, hc_21, hF⟩ := bnd_some hF
      refine cV_v (As := [.int (gI gT_1 5)]) (rest := []) C X (c_X5_noteTooMuch l D hT aT yT hT_15 aT_15 yT_15 gT gT_15 (gI gT_1 5) q_20 hc_21 _) (cwV 1 hts (good_V q4_66 q4_68 q0_13 q1_10 q4_69) rfl rfl rfl (by decide +kernel) ⟨Nat.le_of_ble_eq_true rfl, Nat.le_of_ble_eq_true rfl⟩) (va_recv X.1 X.2.1 (ci := 5) (q0 := 0) rfl rfl) (X.1.sub (tys' := tX5 yT ++ (tX0 yT_15)) [0, 1, 2, 3, 16, 17, 18, 19, 20, 21, 22, 23, 24, 25, 26, 27, 28, 29, 30] rfl) (X.2.1.sub (ws' := wX5 hT aT yT gT ++ (wX0 hT_15 aT_15 yT_15 gT_15)) [0, 1, 2, 3, 4, 20, 21, 22, 23, 24, 25, 26, 27, 28, 29, 30, 31, 32, 33, 34, 35] rfl) (X.2.2.1.sub (ws' := wX5 hT aT yT gT ++ (wX0 hT_15 aT_15 yT_15 gT_15)) [0, 1, 2, 3, 4, 20, 21, 22, 23, 24, 25, 26, 27, 28, 29, 30, 31, 32, 33, 34, 35] (by decide) rfl) (free_of (wC := wX5 hT aT yT gT ++ (wX0 hT_15 aT_15 yT_15 gT_15)) (isC := [0, 1, 2, 3, 4, 20, 21, 22, 23, 24, 25, 26, 27, 28, 29, 30, 31, 32, 33, 34, 35]) X rfl) hl.1 rfl rfl (Nat.le_of_ble_eq_true rfl) dX5_readCam_120 ⟨Nat.le_of_ble_eq_true rfl, Nat.le_of_ble_eq_true rfl⟩ (fun t H1 locs1 ht hB hk hS => ?_)
      have X : Hx D (tX5 yT ++ (tTP yT_0 ++ (tX7 yT_1 ++ (tX6 yT_1_1 ++ (tX4 yT_14 ++ (tX0 yT_15)))))) A s H1 locs1 (wX5 hT aT yT q_20.1 ++ (wTP (aT 0) aT_0 yT_0 gT_0 ++ (wX7 (aT 1) (va_up aT_1 0 (aT 0)) yT_1 gT_1 ++ (wX6 ((va_up aT_1 0 (aT 0)) 1) aT_1_1 yT_1_1 gT_1_1 ++ (wX4 hT_14 aT_14 yT_14 gT_14 ++ (wX0 hT_15 aT_15 yT_15 q_20.2)))))) := Hx_after (isC := [0, 1, 2, 3, 4, 20, 21, 22, 23, 24, 25, 26, 27, 28, 29, 30, 31, 32, 33, 34, 35]) (isR := [5, 6, 7, 8, 9, 10, 11, 12, 13, 14, 15, 16, 17, 18, 19]) (pm := [15, 16, 17, 18, 19, 0, 1, 2, 3, 4, 5, 6, 7, 8, 9, 10, 11, 12, 13, 14, 20, 21, 22, 23, 24, 25, 26, 27, 28, 29, 30, 31, 32, 33, 34, 35]) (wr := wTP (aT 0) aT_0 yT_0 gT_0 ++ (wX7 (aT 1) (va_up aT_1 0 (aT 0)) yT_1 gT_1 ++ (wX6 ((va_up aT_1 0 (aT 0)) 1) aT_1_1 yT_1_1 gT_1_1 ++ (wX4 hT_14 aT_14 yT_14 gT_14)))) X ⟨rfl, rfl, by decide, by decide, rfl, by decide⟩ ht hB hk hS
      clear hk hS ht hB
      generalize H1 = H at X ⊢
      generalize locs1 = locs at X ⊢
      refine lv_goto (tgt := 202) hx hb dX5_readCam_123 (by decide) ?_
      exact (k_X5_readCam_202 l D hT aT yT aT_0 yT_0 aT_1 yT_1 aT_1_1 yT_1_1 hT_14 aT_14 yT_14 hT_15 aT_15 yT_15 n rec IH) C X (lv_sub hl [0, 1, 2] rfl) hF
  · replace hF := iF c hF
    refine lv_iconst (v := (0 : Int32)) hx hb dX5_readCam_104 (by decide) ?_
    have hq := Option.some.inj hF
    subst hq
    exact rt_z (v := (0 : Int32)) C X (by decide) dX5_readCam_105
set_option maxHeartbeats 4000000 in
set_option maxRecDepth 100000 in
theorem k_X5_readCam_79 (l : Launch) (D : Dx) (hT : Nat) (aT : Nat → Nat) (yT : Nat → ClassId) (aT_0 : Nat → Nat) (yT_0 : Nat → ClassId) (aT_1 : Nat → Nat) (yT_1 : Nat → ClassId) (aT_1_1 : Nat → Nat) (yT_1_1 : Nat → ClassId) (hT_14 : Nat) (aT_14 : Nat → Nat) (yT_14 : Nat → ClassId) (hT_15 : Nat) (aT_15 : Nat → Nat) (yT_15 : Nat → ClassId) (n : Nat) (rec : (Gs → Gs → Gs → Gs → Gs → Gs → Int32 → Int32 → Int32 → Option (Int32 × Gs × Gs × Gs × Gs))) (IH : SH_X5_readCam l D hT aT yT aT_0 yT_0 aT_1 yT_1 aT_1_1 yT_1_1 hT_14 aT_14 yT_14 hT_15 aT_15 yT_15 rec) : S_X5_readCam_79 l D hT aT yT aT_0 yT_0 aT_1 yT_1 aT_1_1 yT_1_1 hT_14 aT_14 yT_14 hT_15 aT_15 yT_15 (b_X5_readCam_79 n hT_14 hT_15 rec) := by
  intro p e s m args below meth c H locs A ls gT gT_0 gT_1 gT_1_1 gT_14 gT_15 v1 v3 s0 q C X hl hF
  obtain ⟨hx, hb, hr, hml, hown, hts, hlk⟩ := id C
  unfold b_X5_readCam_79 at hF
  refine lv_istore (lv' := [(4, .int s0), (0, .ref hT), (1, .int v1), (3, .int v3)]) hx hb dX5_readCam_79 hl (by decide) rfl (fun ls hl => ?_)
  refine lv_iload hx hb dX5_readCam_81 (lv_at hl 0 rfl) ?_
  refine lv_if_eq (tgt := 93) hx hb dX5_readCam_83 (by decide) (fun c => ?_) (fun c => ?_)
  · replace hF := iT c hF
    exact (k_X5_readCam_93 l D hT aT yT aT_0 yT_0 aT_1 yT_1 aT_1_1 yT_1_1 hT_14 aT_14 yT_14 hT_15 aT_15 yT_15 n rec IH) C X (lv_sub hl [1, 2, 3, 0] rfl) hF
  · replace hF := iF c hF
    refine lv_aload_n hx hb dX5_readCam_86 rfl (lv_at hl 1 rfl) ?_
    refine va_get (D := D.1) (ci := 5) (v := .ref (aT 1)) (C := RX5) (T := TX5) (N := 18) hx hb hts wi_X5 hown X.1 X.2.1 0 rfl rfl 1 (by decide) (hts _ q3_52) (fun _ h9 => h9) (fl_get (by decide)) dX5_readCam_87 ?_
    obtain ⟨q_22, hc_23, hF⟩ := bnd_some hF
    refine cV_v (As := []) (rest := []) C X (c_X7_advance l D (aT 1) (va_up aT_1 0 (aT 0)) yT_1 aT_0 yT_0 aT_1_1 yT_1_1 n gT_1 gT_0 gT_1_1 q_22 hc_23 _) (cwV 0 hts (good_V q4_61 q3_131 q3_132 q1_12 q3_133) rfl rfl rfl (by decide +kernel) ⟨Nat.le_of_ble_eq_true rfl, Nat.le_of_ble_eq_true rfl⟩) (va_recv X.1 X.2.1 (ci := 7) (q0 := 6) rfl rfl) (X.1.sub (tys' := tX7 yT_1 ++ (tTP yT_0 ++ (tX6 yT_1_1))) [4, 5] rfl) (X.2.1.sub (ws' := wX7 (aT 1) (va_up aT_1 0 (aT 0)) yT_1 gT_1 ++ (wTP (aT 0) aT_0 yT_0 gT_0 ++ (wX6 ((va_up aT_1 0 (aT 0)) 1) aT_1_1 yT_1_1 gT_1_1))) [6, 5, 7, 8] rfl) (X.2.2.1.sub (ws' := wX7 (aT 1) (va_up aT_1 0 (aT 0)) yT_1 gT_1 ++ (wTP (aT 0) aT_0 yT_0 gT_0 ++ (wX6 ((va_up aT_1 0 (aT 0)) 1) aT_1_1 yT_1_1 gT_1_1))) [6, 5, 7, 8] (by decide) rfl) (free_of (wC := wX7 (aT 1) (va_up aT_1 0 (aT 0)) yT_1 gT_1 ++ (wTP (aT 0) aT_0 yT_0 gT_0 ++ (wX6 ((va_up aT_1 0 (aT 0)) 1) aT_1_1 yT_1_1 gT_1_1))) (isC := [6, 5, 7, 8]) X rfl) hl.1 rfl rfl (Nat.le_of_ble_eq_true rfl) dX5_readCam_90 ⟨Nat.le_of_ble_eq_true rfl, Nat.le_of_ble_eq_true rfl⟩ (fun t H1 locs1 ht hB hk hS => ?_)
    have X : Hx D (tX5 yT ++ (tTP yT_0 ++ (tX7 yT_1 ++ (tX6 yT_1_1 ++ (tX4 yT_14 ++ (tX0 yT_15)))))) A s H1 locs1 (wX5 hT aT yT gT ++ (wTP (aT 0) aT_0 yT_0 gT_0 ++ (wX7 (aT 1) (va_up aT_1 0 (aT 0)) yT_1 q_22 ++ (wX6 ((va_up aT_1 0 (aT 0)) 1) aT_1_1 yT_1_1 gT_1_1 ++ (wX4 hT_14 aT_14 yT_14 gT_14 ++ (wX0 hT_15 aT_15 yT_15 gT_15)))))) := Hx_after (isC := [6, 5, 7, 8]) (isR := [0, 1, 2, 3, 4, 9, 10, 11, 12, 13, 14, 15, 16, 17, 18, 19, 20, 21, 22, 23, 24, 25, 26, 27, 28, 29, 30, 31, 32, 33, 34, 35]) (pm := [0, 1, 2, 3, 4, 33, 32, 34, 35, 5, 6, 7, 8, 9, 10, 11, 12, 13, 14, 15, 16, 17, 18, 19, 20, 21, 22, 23, 24, 25, 26, 27, 28, 29, 30, 31]) (wr := wX5 hT aT yT gT ++ (wX4 hT_14 aT_14 yT_14 gT_14 ++ (wX0 hT_15 aT_15 yT_15 gT_15))) X ⟨rfl, rfl, by decide, by decide, rfl, by decide⟩ ht hB hk hS
    clear hk hS ht hB
    generalize H1 = H at X ⊢
    generalize locs1 = locs at X ⊢
    exact (k_X5_readCam_93 l D hT aT yT aT_0 yT_0 aT_1 yT_1 aT_1_1 yT_1_1 hT_14 aT_14 yT_14 hT_15 aT_15 yT_15 n rec IH) C X (lv_sub hl [1, 2, 3, 0] rfl) hF
set_option maxHeartbeats 4000000 in
set_option maxRecDepth 100000 in
theorem k_X5_readCam_51 (l : Launch) (D : Dx) (hT : Nat) (aT : Nat → Nat) (yT : Nat → ClassId) (aT_0 : Nat → Nat) (yT_0 : Nat → ClassId) (aT_1 : Nat → Nat) (yT_1 : Nat → ClassId) (aT_1_1 : Nat → Nat) (yT_1_1 : Nat → ClassId) (hT_14 : Nat) (aT_14 : Nat → Nat) (yT_14 : Nat → ClassId) (hT_15 : Nat) (aT_15 : Nat → Nat) (yT_15 : Nat → ClassId) (n : Nat) (rec : (Gs → Gs → Gs → Gs → Gs → Gs → Int32 → Int32 → Int32 → Option (Int32 × Gs × Gs × Gs × Gs))) (IH : SH_X5_readCam l D hT aT yT aT_0 yT_0 aT_1 yT_1 aT_1_1 yT_1_1 hT_14 aT_14 yT_14 hT_15 aT_15 yT_15 rec) : S_X5_readCam_51 l D hT aT yT aT_0 yT_0 aT_1 yT_1 aT_1_1 yT_1_1 hT_14 aT_14 yT_14 hT_15 aT_15 yT_15 (h_X5_readCam_51 n hT_14 hT_15 rec) := by
  intro p e s m args below meth c H locs A ls gT gT_0 gT_1 gT_1_1 gT_14 gT_15 v1 v2 v3 q C X hl hF
  obtain ⟨hx, hb, hr, hml, hown, hts, hlk⟩ := id C
  unfold h_X5_readCam_51 at hF
  refine lv_iload_n hx hb dX5_readCam_51 rfl (lv_at hl 3 rfl) ?_
  refine lv_sipush (v := (3000 : Int32)) hx hb dX5_readCam_52 (by decide) ?_
  refine lv_icmp_gt (tgt := 222) hx hb dX5_readCam_55 (by decide) (fun c => ?_) (fun c => ?_)
  · replace hF := iT c hF
    exact (k_X5_readCam_222 l D hT aT yT aT_0 yT_0 aT_1 yT_1 aT_1_1 yT_1_1 hT_14 aT_14 yT_14 hT_15 aT_15 yT_15 n rec IH) C X (lv_sub hl [0, 1] rfl) hF
  · replace hF := iF c hF
    refine lv_iload_n hx hb dX5_readCam_58 rfl (lv_at hl 2 rfl) ?_
    refine lv_if_eq (tgt := 222) hx hb dX5_readCam_59 (by decide) (fun c => ?_) (fun c => ?_)
    · replace hF := iT c hF
      exact (k_X5_readCam_222 l D hT aT yT aT_0 yT_0 aT_1 yT_1 aT_1_1 yT_1_1 hT_14 aT_14 yT_14 hT_15 aT_15 yT_15 n rec IH) C X (lv_sub hl [0, 1] rfl) hF
    · replace hF := iF c hF
      refine lv_aload_n hx hb dX5_readCam_62 rfl (lv_at hl 0 rfl) ?_
      refine va_get (D := D.1) (ci := 5) (v := .ref (aT 1)) (C := RX5) (T := TX5) (N := 18) hx hb hts wi_X5 hown X.1 X.2.1 0 rfl rfl 1 (by decide) (hts _ q3_52) (fun _ h9 => h9) (fl_get (by decide)) dX5_readCam_63 ?_
      refine va_getN (D := D.1) (ci := 7) (v := .int (gI gT_1 4)) (C := RX7) (T := TX7) (N := 12) hx hb hts wi_X7 hown X.1 X.2.1 6 rfl rfl 4 (by decide) (X.2.2.2.2.2.1.use q3_0 rfl) (fun _ h9 => h9) (fl_get (by decide)) dX5_readCam_66 ?_
      refine lv_bipush (v := (50 : Int32)) hx hb dX5_readCam_69 (by decide) ?_
      refine lv_icmp_ne (tgt := 78) hx hb dX5_readCam_71 (by decide) (fun c => ?_) (fun c => ?_)
      · replace hF := iF c hF
        refine lv_iconst (v := (0 : Int32)) hx hb dX5_readCam_78 (by decide) ?_
        exact (k_X5_readCam_79 l D hT aT yT aT_0 yT_0 aT_1 yT_1 aT_1_1 yT_1_1 hT_14 aT_14 yT_14 hT_15 aT_15 yT_15 n rec IH) C X (lv_sub hl [0, 1, 3] rfl) hF
      · replace hF := iT c hF
        refine lv_iconst (v := (1 : Int32)) hx hb dX5_readCam_74 (by decide) ?_
        refine lv_goto (tgt := 79) hx hb dX5_readCam_75 (by decide) ?_
        exact (k_X5_readCam_79 l D hT aT yT aT_0 yT_0 aT_1 yT_1 aT_1_1 yT_1_1 hT_14 aT_14 yT_14 hT_15 aT_15 yT_15 n rec IH) C X (lv_sub hl [0, 1, 3] rfl) hF
theorem kL_X5_readCam (l : Launch) (D : Dx) (hT : Nat) (aT : Nat → Nat) (yT : Nat → ClassId) (aT_0 : Nat → Nat) (yT_0 : Nat → ClassId) (aT_1 : Nat → Nat) (yT_1 : Nat → ClassId) (aT_1_1 : Nat → Nat) (yT_1_1 : Nat → ClassId) (hT_14 : Nat) (aT_14 : Nat → Nat) (yT_14 : Nat → ClassId) (hT_15 : Nat) (aT_15 : Nat → Nat) (yT_15 : Nat → ClassId) (n : Nat) : ∀ k, SH_X5_readCam l D hT aT yT aT_0 yT_0 aT_1 yT_1 aT_1_1 yT_1_1 hT_14 aT_14 yT_14 hT_15 aT_15 yT_15 (L_X5_readCam n hT_14 hT_15 k)
  | 0 => fun _ _ _ h => by cases h
  | k + 1 => k_X5_readCam_51 l D hT aT yT aT_0 yT_0 aT_1 yT_1 aT_1_1 yT_1_1 hT_14 aT_14 yT_14 hT_15 aT_15 yT_15 n _ (kL_X5_readCam l D hT aT yT aT_0 yT_0 aT_1 yT_1 aT_1_1 yT_1_1 hT_14 aT_14 yT_14 hT_15 aT_15 yT_15 n k)
set_option maxHeartbeats 4000000 in
set_option maxRecDepth 100000 in
theorem c_X5_readCam (l : Launch) (D : Dx) (hT : Nat) (aT : Nat → Nat) (yT : Nat → ClassId) (aT_0 : Nat → Nat) (yT_0 : Nat → ClassId) (aT_1 : Nat → Nat) (yT_1 : Nat → ClassId) (aT_1_1 : Nat → Nat) (yT_1_1 : Nat → ClassId) (hT_14 : Nat) (aT_14 : Nat → Nat) (yT_14 : Nat → ClassId) (hT_15 : Nat) (aT_15 : Nat → Nat) (yT_15 : Nat → ClassId) (n : Nat) (gT : Gs) (gT_0 : Gs) (gT_1 : Gs) (gT_1_1 : Gs) (gT_14 : Gs) (gT_15 : Gs) (q : Int32 × Gs × Gs × Gs × Gs) (hF : f_X5_readCam n hT_14 hT_15 gT gT_0 gT_1 gT_1_1 gT_14 gT_15 = some q) (sz : Nat) : Met l yX5_readCam (ws_ yX5_readCam cX5_readCam 7 (some .boolean)) R_X5_readCam (PC D (tX5 yT ++ (tTP yT_0 ++ (tX7 yT_1 ++ (tX6 yT_1_1 ++ (tX4 yT_14 ++ (tX0 yT_15)))))) [.ref hT] (wX5 hT aT yT gT ++ (wTP (aT 0) aT_0 yT_0 gT_0 ++ (wX7 (aT 1) (va_up aT_1 0 (aT 0)) yT_1 gT_1 ++ (wX6 ((va_up aT_1 0 (aT 0)) 1) aT_1_1 yT_1_1 gT_1_1 ++ (wX4 hT_14 aT_14 yT_14 gT_14 ++ (wX0 hT_15 aT_15 yT_15 gT_15)))))) sz) (QI D (va_A (wX5 hT aT yT gT ++ (wTP (aT 0) aT_0 yT_0 gT_0 ++ (wX7 (aT 1) (va_up aT_1 0 (aT 0)) yT_1 gT_1 ++ (wX6 ((va_up aT_1 0 (aT 0)) 1) aT_1_1 yT_1_1 gT_1_1 ++ (wX4 hT_14 aT_14 yT_14 gT_14 ++ (wX0 hT_15 aT_15 yT_15 gT_15)))))) sz) (wX5 hT aT yT q.2.1 ++ (wTP (aT 0) aT_0 yT_0 gT_0 ++ (wX7 (aT 1) (va_up aT_1 0 (aT 0)) yT_1 q.2.2.1 ++ (wX6 ((va_up aT_1 0 (aT 0)) 1) aT_1_1 yT_1_1 gT_1_1 ++ (wX4 hT_14 aT_14 yT_14 q.2.2.2.1 ++ (wX0 hT_15 aT_15 yT_15 q.2.2.2.2)))))) q.1) 0 0 (va_A (wX5 hT aT yT gT ++ (wTP (aT 0) aT_0 yT_0 gT_0 ++ (wX7 (aT 1) (va_up aT_1 0 (aT 0)) yT_1 gT_1 ++ (wX6 ((va_up aT_1 0 (aT 0)) 1) aT_1_1 yT_1_1 gT_1_1 ++ (wX4 hT_14 aT_14 yT_14 gT_14 ++ (wX0 hT_15 aT_15 yT_15 gT_15)))))) sz) := by
  refine Met.ofW (cc := cX5_readCam) (maxL := 7) (ret := (some .boolean)) (by decide) rfl ?_
  intro p e s m args below meth c s₁ B hml hv
  obtain ⟨rfl, hsz, hP, hK, hD, hN⟩ := hv
  subst hsz
  have C : Cx p s m _ meth c cX5_readCam (some .boolean) 7 RX5 lw_all := Cx_of B hml
  have X := Hx_start hP hK hD hN
  obtain ⟨hx, hb, hr, -, hown, hts, hlk⟩ := id C
  generalize va_A (wX5 hT aT yT gT ++ (wTP (aT 0) aT_0 yT_0 gT_0 ++ (wX7 (aT 1) (va_up aT_1 0 (aT 0)) yT_1 gT_1 ++ (wX6 ((va_up aT_1 0 (aT 0)) 1) aT_1_1 yT_1_1 gT_1_1 ++ (wX4 hT_14 aT_14 yT_14 gT_14 ++ (wX0 hT_15 aT_15 yT_15 gT_15)))))) s.heap.size = A at X ⊢
  have hl := lv_entry ([.ref hT]) (n := 7) (Nat.le_of_ble_eq_true rfl)
  rw [lg_entry_eq]
  generalize (lg_sl ([.ref hT]) ++ List.replicate (7 - (lg_sl ([.ref hT])).length) Slot.unset).toArray = ls at hl ⊢
  have hl : lv_has ls 7 [(0, .ref hT)] := hl
  unfold f_X5_readCam at hF
  refine lv_aload_n hx hb dX5_readCam_0 rfl (lv_at hl 0 rfl) ?_
  refine va_get (D := D.1) (ci := 5) (v := .ref (aT 1)) (C := RX5) (T := TX5) (N := 18) hx hb hts wi_X5 hown X.1 X.2.1 0 rfl rfl 1 (by decide) (hts _ q3_52) (fun _ h9 => h9) (fl_get (by decide)) dX5_readCam_1 ?_
  obtain ⟨q_1, hc_2, hF⟩ := bnd_some hF
  refine cV_v (As := []) (rest := []) C X (c_X7_advance l D (aT 1) (va_up aT_1 0 (aT 0)) yT_1 aT_0 yT_0 aT_1_1 yT_1_1 n gT_1 gT_0 gT_1_1 q_1 hc_2 _) (cwV 0 hts (good_V q4_61 q3_131 q3_132 q1_12 q3_133) rfl rfl rfl (by decide +kernel) ⟨Nat.le_of_ble_eq_true rfl, Nat.le_of_ble_eq_true rfl⟩) (va_recv X.1 X.2.1 (ci := 7) (q0 := 6) rfl rfl) (X.1.sub (tys' := tX7 yT_1 ++ (tTP yT_0 ++ (tX6 yT_1_1))) [4, 5] rfl) (X.2.1.sub (ws' := wX7 (aT 1) (va_up aT_1 0 (aT 0)) yT_1 gT_1 ++ (wTP (aT 0) aT_0 yT_0 gT_0 ++ (wX6 ((va_up aT_1 0 (aT 0)) 1) aT_1_1 yT_1_1 gT_1_1))) [6, 5, 7, 8] rfl) (X.2.2.1.sub (ws' := wX7 (aT 1) (va_up aT_1 0 (aT 0)) yT_1 gT_1 ++ (wTP (aT 0) aT_0 yT_0 gT_0 ++ (wX6 ((va_up aT_1 0 (aT 0)) 1) aT_1_1 yT_1_1 gT_1_1))) [6, 5, 7, 8] (by decide) rfl) (free_of (wC := wX7 (aT 1) (va_up aT_1 0 (aT 0)) yT_1 gT_1 ++ (wTP (aT 0) aT_0 yT_0 gT_0 ++ (wX6 ((va_up aT_1 0 (aT 0)) 1) aT_1_1 yT_1_1 gT_1_1))) (isC := [6, 5, 7, 8]) X rfl) hl.1 rfl rfl (Nat.le_of_ble_eq_true rfl) dX5_readCam_4 ⟨Nat.le_of_ble_eq_true rfl, Nat.le_of_ble_eq_true rfl⟩ (fun t H1 locs1 ht hB hk hS => ?_)
  have X : Hx D (tX5 yT ++ (tTP yT_0 ++ (tX7 yT_1 ++ (tX6 yT_1_1 ++ (tX4 yT_14 ++ (tX0 yT_15)))))) A s H1 locs1 (wX5 hT aT yT gT ++ (wTP (aT 0) aT_0 yT_0 gT_0 ++ (wX7 (aT 1) (va_up aT_1 0 (aT 0)) yT_1 q_1 ++ (wX6 ((va_up aT_1 0 (aT 0)) 1) aT_1_1 yT_1_1 gT_1_1 ++ (wX4 hT_14 aT_14 yT_14 gT_14 ++ (wX0 hT_15 aT_15 yT_15 gT_15)))))) := Hx_after (isC := [6, 5, 7, 8]) (isR := [0, 1, 2, 3, 4, 9, 10, 11, 12, 13, 14, 15, 16, 17, 18, 19, 20, 21, 22, 23, 24, 25, 26, 27, 28, 29, 30, 31, 32, 33, 34, 35]) (pm := [0, 1, 2, 3, 4, 33, 32, 34, 35, 5, 6, 7, 8, 9, 10, 11, 12, 13, 14, 15, 16, 17, 18, 19, 20, 21, 22, 23, 24, 25, 26, 27, 28, 29, 30, 31]) (wr := wX5 hT aT yT gT ++ (wX4 hT_14 aT_14 yT_14 gT_14 ++ (wX0 hT_15 aT_15 yT_15 gT_15))) X ⟨rfl, rfl, by decide, by decide, rfl, by decide⟩ ht hB hk hS
  clear hk hS ht hB
  generalize H1 = H at X ⊢
  generalize locs1 = locs at X ⊢
  refine lv_aload_n hx hb dX5_readCam_7 rfl (lv_at hl 0 rfl) ?_
  refine va_get (D := D.1) (ci := 5) (v := .ref (aT 1)) (C := RX5) (T := TX5) (N := 18) hx hb hts wi_X5 hown X.1 X.2.1 0 rfl rfl 1 (by decide) (hts _ q3_52) (fun _ h9 => h9) (fl_get (by decide)) dX5_readCam_8 ?_
  refine va_getN (D := D.1) (ci := 7) (v := .int (gI q_1 4)) (C := RX7) (T := TX7) (N := 12) hx hb hts wi_X7 hown X.1 X.2.1 6 rfl rfl 4 (by decide) (X.2.2.2.2.2.1.use q3_0 rfl) (fun _ h9 => h9) (fl_get (by decide)) dX5_readCam_11 ?_
  refine lv_iconst (v := (2 : Int32)) hx hb dX5_readCam_14 (by decide) ?_
  refine lv_icmp_eq (tgt := 20) hx hb dX5_readCam_15 (by decide) (fun c => ?_) (fun c => ?_)
  · replace hF := iT c hF
    refine lv_aload_n hx hb dX5_readCam_20 rfl (lv_at hl 0 rfl) ?_
    refine lv_bipush (v := (52 : Int32)) hx hb dX5_readCam_21 (by decide) ?_
    refine lv_aload_n hx hb dX5_readCam_23 rfl (lv_at hl 0 rfl) ?_
    obtain ⟨h_3, hF⟩ := grd_some hF
    refine va_get (D := D.1) (ci := 5) (v := .ref hT_14) (C := RX5) (T := TX5) (N := 18) hx hb hts wi_X5 hown X.1 X.2.1 0 rfl rfl 14 (by decide) (hts _ q3_65) (fun _ h9 => h9) ((fl_get (by decide)).trans (rf_eq h_3)) dX5_readCam_24 ?_
    refine va_getN (D := D.1) (ci := 4) (v := .int (gI gT_14 6)) (C := RX4) (T := TX4) (N := 14) hx hb hts wi_X4 hown X.1 X.2.1 9 rfl rfl 6 (by decide) (X.2.2.2.2.2.1.use q2_93 rfl) (fun _ h9 => h9) (fl_get (by decide)) dX5_readCam_27 ?_
    refine lv_bipush (v := (8 : Int32)) hx hb dX5_readCam_30 (by decide) ?_
    obtain ⟨q_4, hc_5, hF⟩ := bnd_some hF
    refine cV_i (As := [.int (52 : Int32), .int (gI gT_14 6), .int (8 : Int32)]) (rest := []) C X (c_X5_tell l D hT aT yT aT_0 yT_0 (va_up aT_1 0 (aT 0)) yT_1 aT_1_1 yT_1_1 hT_14 aT_14 yT_14 hT_15 aT_15 yT_15 n gT gT_0 q_1 gT_1_1 gT_14 gT_15 (52 : Int32) (gI gT_14 6) (8 : Int32) q_4 hc_5 _) (cwV 3 hts (good_V q4_62 q4_64 q0_12 q1_10 q4_65) rfl rfl rfl (by decide +kernel) ⟨Nat.le_of_ble_eq_true rfl, Nat.le_of_ble_eq_true rfl⟩) (va_recv X.1 X.2.1 (ci := 5) (q0 := 0) rfl rfl) X.1 X.2.1 X.2.2.1 (free_all X) hl.1 rfl rfl (Nat.le_of_ble_eq_true rfl) dX5_readCam_32 ⟨Nat.le_of_ble_eq_true rfl, Nat.le_of_ble_eq_true rfl⟩ (fun t H1 locs1 ht hB hk hS => ?_)
    have X : Hx D (tX5 yT ++ (tTP yT_0 ++ (tX7 yT_1 ++ (tX6 yT_1_1 ++ (tX4 yT_14 ++ (tX0 yT_15)))))) A s H1 locs1 (wX5 hT aT yT q_4.2.1 ++ (wTP (aT 0) aT_0 yT_0 gT_0 ++ (wX7 (aT 1) (va_up aT_1 0 (aT 0)) yT_1 q_4.2.2.1 ++ (wX6 ((va_up aT_1 0 (aT 0)) 1) aT_1_1 yT_1_1 gT_1_1 ++ (wX4 hT_14 aT_14 yT_14 q_4.2.2.2.1 ++ (wX0 hT_15 aT_15 yT_15 q_4.2.2.2.2)))))) := Hx_after_all X ht hB hS
    clear hk hS ht hB
    generalize H1 = H at X ⊢
    generalize locs1 = locs at X ⊢
    refine lv_istore_n (lv' := [(1, .int q_4.1), (0, .ref hT)]) hx hb dX5_readCam_35 rfl hl (by decide) rfl (fun ls hl => ?_)
    refine lv_aload_n hx hb dX5_readCam_36 rfl (lv_at hl 1 rfl) ?_
    refine lv_bipush (v := (43 : Int32)) hx hb dX5_readCam_37 (by decide) ?_
    obtain ⟨q_6, hc_7, hF⟩ := bnd_some hF
    refine cV_i (As := [.int (43 : Int32)]) (rest := []) C X (c_X5_expect l D hT aT yT aT_0 yT_0 (va_up aT_1 0 (aT 0)) yT_1 aT_1_1 yT_1_1 n q_4.2.1 gT_0 q_4.2.2.1 gT_1_1 (43 : Int32) q_6 hc_7 _) (cwV 1 hts (good_V q4_78 q4_80 q0_14 q1_10 q4_81) rfl rfl rfl (by decide +kernel) ⟨Nat.le_of_ble_eq_true rfl, Nat.le_of_ble_eq_true rfl⟩) (va_recv X.1 X.2.1 (ci := 5) (q0 := 0) rfl rfl) (X.1.sub (tys' := tX5 yT ++ (tTP yT_0 ++ (tX7 yT_1 ++ (tX6 yT_1_1)))) [0, 1, 2, 3, 4, 5] rfl) (X.2.1.sub (ws' := wX5 hT aT yT q_4.2.1 ++ (wTP (aT 0) aT_0 yT_0 gT_0 ++ (wX7 (aT 1) (va_up aT_1 0 (aT 0)) yT_1 q_4.2.2.1 ++ (wX6 ((va_up aT_1 0 (aT 0)) 1) aT_1_1 yT_1_1 gT_1_1)))) [0, 1, 2, 3, 4, 5, 6, 7, 8] rfl) (X.2.2.1.sub (ws' := wX5 hT aT yT q_4.2.1 ++ (wTP (aT 0) aT_0 yT_0 gT_0 ++ (wX7 (aT 1) (va_up aT_1 0 (aT 0)) yT_1 q_4.2.2.1 ++ (wX6 ((va_up aT_1 0 (aT 0)) 1) aT_1_1 yT_1_1 gT_1_1)))) [0, 1, 2, 3, 4, 5, 6, 7, 8] (by decide) rfl) (free_of (wC := wX5 hT aT yT q_4.2.1 ++ (wTP (aT 0) aT_0 yT_0 gT_0 ++ (wX7 (aT 1) (va_up aT_1 0 (aT 0)) yT_1 q_4.2.2.1 ++ (wX6 ((va_up aT_1 0 (aT 0)) 1) aT_1_1 yT_1_1 gT_1_1)))) (isC := [0, 1, 2, 3, 4, 5, 6, 7, 8]) X rfl) hl.1 rfl rfl (Nat.le_of_ble_eq_true rfl) dX5_readCam_39 ⟨Nat.le_of_ble_eq_true rfl, Nat.le_of_ble_eq_true rfl⟩ (fun t H1 locs1 ht hB hk hS => ?_)
    have X : Hx D (tX5 yT ++ (tTP yT_0 ++ (tX7 yT_1 ++ (tX6 yT_1_1 ++ (tX4 yT_14 ++ (tX0 yT_15)))))) A s H1 locs1 (wX5 hT aT yT q_4.2.1 ++ (wTP (aT 0) aT_0 yT_0 gT_0 ++ (wX7 (aT 1) (va_up aT_1 0 (aT 0)) yT_1 q_6.2 ++ (wX6 ((va_up aT_1 0 (aT 0)) 1) aT_1_1 yT_1_1 gT_1_1 ++ (wX4 hT_14 aT_14 yT_14 q_4.2.2.2.1 ++ (wX0 hT_15 aT_15 yT_15 q_4.2.2.2.2)))))) := Hx_after (isC := [0, 1, 2, 3, 4, 5, 6, 7, 8]) (isR := [9, 10, 11, 12, 13, 14, 15, 16, 17, 18, 19, 20, 21, 22, 23, 24, 25, 26, 27, 28, 29, 30, 31, 32, 33, 34, 35]) (pm := [27, 28, 29, 30, 31, 32, 33, 34, 35, 0, 1, 2, 3, 4, 5, 6, 7, 8, 9, 10, 11, 12, 13, 14, 15, 16, 17, 18, 19, 20, 21, 22, 23, 24, 25, 26]) (wr := wX4 hT_14 aT_14 yT_14 q_4.2.2.2.1 ++ (wX0 hT_15 aT_15 yT_15 q_4.2.2.2.2)) X ⟨rfl, rfl, by decide, by decide, rfl, by decide⟩ ht hB hk hS
    clear hk hS ht hB
    generalize H1 = H at X ⊢
    generalize locs1 = locs at X ⊢
    refine lv_if_ne (tgt := 47) hx hb dX5_readCam_42 (by decide) (fun c => ?_) (fun c => ?_)
    · replace hF := iF c hF
      refine lv_iconst (v := (1 : Int32)) hx hb dX5_readCam_47 (by decide) ?_
      refine lv_istore_n (lv' := [(2, .int (1 : Int32)), (1, .int q_4.1), (0, .ref hT)]) hx hb dX5_readCam_48 rfl hl (by decide) rfl (fun ls hl => ?_)
      refine lv_iconst (v := (0 : Int32)) hx hb dX5_readCam_49 (by decide) ?_
      refine lv_istore_n (lv' := [(3, .int (0 : Int32)), (2, .int (1 : Int32)), (1, .int q_4.1), (0, .ref hT)]) hx hb dX5_readCam_50 rfl hl (by decide) rfl (fun ls hl => ?_)
      exact (kL_X5_readCam l D hT aT yT aT_0 yT_0 aT_1 yT_1 aT_1_1 yT_1_1 hT_14 aT_14 yT_14 hT_15 aT_15 yT_15 n n) C X (lv_sub hl [3, 2, 1, 0] rfl) hF
    · replace hF := iT c hF
      refine lv_iconst (v := (0 : Int32)) hx hb dX5_readCam_45 (by decide) ?_
      have hq := Option.some.inj hF
      subst hq
      exact rt_z (v := (0 : Int32)) C X (by decide) dX5_readCam_46
  · replace hF := iF c hF
    refine lv_iconst (v := (0 : Int32)) hx hb dX5_readCam_18 (by decide) ?_
    have hq := Option.some.inj hF
    subst hq
    exact rt_z (v := (0 : Int32)) C X (by decide) dX5_readCam_19

/-! ### X5_settle -/
theorem dX5_settle_0 : decode cX5_settle 0 = .ok (.aload_n 0, 1) := by decide +kernel
theorem dX5_settle_1 : decode cX5_settle 1 = .ok (.getfield 51, 3) := by decide +kernel
theorem dX5_settle_4 : decode cX5_settle 4 = .ok (.iconst (-1), 1) := by decide +kernel
theorem dX5_settle_5 : decode cX5_settle 5 = .ok (.if_icmp .eq 13, 3) := by decide +kernel
theorem dX5_settle_8 : decode cX5_settle 8 = .ok (.aload_n 0, 1) := by decide +kernel
theorem dX5_settle_9 : decode cX5_settle 9 = .ok (.iconst 2, 1) := by decide +kernel
theorem dX5_settle_10 : decode cX5_settle 10 = .ok (.aload_n 0, 1) := by decide +kernel
theorem dX5_settle_11 : decode cX5_settle 11 = .ok (.getfield 51, 3) := by decide +kernel
theorem dX5_settle_14 : decode cX5_settle 14 = .ok (.invokevirtual 117, 3) := by decide +kernel
theorem dX5_settle_17 : decode cX5_settle 17 = .ok (.ireturn, 1) := by decide +kernel
theorem dX5_settle_18 : decode cX5_settle 18 = .ok (.iload_n 1, 1) := by decide +kernel
theorem dX5_settle_19 : decode cX5_settle 19 = .ok (.iconst (-1), 1) := by decide +kernel
theorem dX5_settle_20 : decode cX5_settle 20 = .ok (.if_icmp .eq 10, 3) := by decide +kernel
theorem dX5_settle_23 : decode cX5_settle 23 = .ok (.aload_n 0, 1) := by decide +kernel
theorem dX5_settle_24 : decode cX5_settle 24 = .ok (.iconst 3, 1) := by decide +kernel
theorem dX5_settle_25 : decode cX5_settle 25 = .ok (.iload_n 1, 1) := by decide +kernel
theorem dX5_settle_26 : decode cX5_settle 26 = .ok (.invokevirtual 117, 3) := by decide +kernel
theorem dX5_settle_29 : decode cX5_settle 29 = .ok (.ireturn, 1) := by decide +kernel
theorem dX5_settle_30 : decode cX5_settle 30 = .ok (.aload_n 0, 1) := by decide +kernel
theorem dX5_settle_31 : decode cX5_settle 31 = .ok (.getfield 12, 3) := by decide +kernel
theorem dX5_settle_34 : decode cX5_settle 34 = .ok (.aload_n 0, 1) := by decide +kernel
theorem dX5_settle_35 : decode cX5_settle 35 = .ok (.getfield 61, 3) := by decide +kernel
theorem dX5_settle_38 : decode cX5_settle 38 = .ok (.aload_n 0, 1) := by decide +kernel
theorem dX5_settle_39 : decode cX5_settle 39 = .ok (.getfield 71, 3) := by decide +kernel
theorem dX5_settle_42 : decode cX5_settle 42 = .ok (.invokevirtual 140, 3) := by decide +kernel
theorem dX5_settle_45 : decode cX5_settle 45 = .ok (.istore_n 2, 1) := by decide +kernel
theorem dX5_settle_46 : decode cX5_settle 46 = .ok (.iload_n 2, 1) := by decide +kernel
theorem dX5_settle_47 : decode cX5_settle 47 = .ok (.iconst (-1), 1) := by decide +kernel
theorem dX5_settle_48 : decode cX5_settle 48 = .ok (.if_icmp .eq 12, 3) := by decide +kernel
theorem dX5_settle_51 : decode cX5_settle 51 = .ok (.aload_n 0, 1) := by decide +kernel
theorem dX5_settle_52 : decode cX5_settle 52 = .ok (.iconst 4, 1) := by decide +kernel
theorem dX5_settle_53 : decode cX5_settle 53 = .ok (.iload_n 2, 1) := by decide +kernel
theorem dX5_settle_54 : decode cX5_settle 54 = .ok (.invokevirtual 117, 3) := by decide +kernel
theorem dX5_settle_57 : decode cX5_settle 57 = .ok (.goto 4, 3) := by decide +kernel
theorem dX5_settle_60 : decode cX5_settle 60 = .ok (.iconst 0, 1) := by decide +kernel
theorem dX5_settle_61 : decode cX5_settle 61 = .ok (.ireturn, 1) := by decide +kernel
abbrev R_X5_settle : Room := ({ frames := 5, cells := 0, slots := 0, locals := 159 } : Room)
def f_X5_settle (n : Nat) (hT_14 : Nat) (hT_15 : Nat) (gT : Gs) (gT_3 : Gs) (gT_14 : Gs) (gT_15 : Gs) (x0 : Int32) : Option (Int32 × Gs × Gs × Gs) :=
  if (gI gT 16) = (-1 : Int32) then (if x0 = (-1 : Int32) then (grd (rEq (gR gT 14) hT_14) (grd (rEq (gR gT 15) hT_15) (bnd (f_X8_firstFault n gT_3 gT_14 gT_15) (fun q_3 => if q_3.1 = (-1 : Int32) then (some ((0 : Int32), gT, q_3.2.1, q_3.2.2)) else (bnd (f_X5_refuse gT (4 : Int32) q_3.1) (fun q_5 => some (q_5.1, q_5.2, q_3.2.1, q_3.2.2))))))) else (bnd (f_X5_refuse gT (3 : Int32) x0) (fun q_7 => some (q_7.1, q_7.2, gT_3, gT_15)))) else (bnd (f_X5_refuse gT (2 : Int32) (gI gT 16)) (fun q_9 => some (q_9.1, q_9.2, gT_3, gT_15)))
set_option maxHeartbeats 4000000 in
set_option maxRecDepth 100000 in
theorem c_X5_settle (l : Launch) (D : Dx) (hT : Nat) (aT : Nat → Nat) (yT : Nat → ClassId) (aT_3 : Nat → Nat) (yT_3 : Nat → ClassId) (hT_14 : Nat) (aT_14 : Nat → Nat) (yT_14 : Nat → ClassId) (hT_15 : Nat) (aT_15 : Nat → Nat) (yT_15 : Nat → ClassId) (n : Nat) (gT : Gs) (gT_3 : Gs) (gT_14 : Gs) (gT_15 : Gs) (x0 : Int32) (q : Int32 × Gs × Gs × Gs) (hF : f_X5_settle n hT_14 hT_15 gT gT_3 gT_14 gT_15 x0 = some q) (sz : Nat) : Met l yX5_settle (ws_ yX5_settle cX5_settle 3 (some .int)) R_X5_settle (PC D (tX5 yT ++ (tX8 yT_3 ++ (tX4 yT_14 ++ (tX0 yT_15)))) [.ref hT, .int x0] (wX5 hT aT yT gT ++ (wX8 (aT 3) aT_3 yT_3 gT_3 ++ (wX4 hT_14 aT_14 yT_14 gT_14 ++ (wX0 hT_15 aT_15 yT_15 gT_15)))) sz) (QI D (va_A (wX5 hT aT yT gT ++ (wX8 (aT 3) aT_3 yT_3 gT_3 ++ (wX4 hT_14 aT_14 yT_14 gT_14 ++ (wX0 hT_15 aT_15 yT_15 gT_15)))) sz) (wX5 hT aT yT q.2.1 ++ (wX8 (aT 3) aT_3 yT_3 q.2.2.1 ++ (wX4 hT_14 aT_14 yT_14 gT_14 ++ (wX0 hT_15 aT_15 yT_15 q.2.2.2)))) q.1) 0 0 (va_A (wX5 hT aT yT gT ++ (wX8 (aT 3) aT_3 yT_3 gT_3 ++ (wX4 hT_14 aT_14 yT_14 gT_14 ++ (wX0 hT_15 aT_15 yT_15 gT_15)))) sz) := by
  refine Met.ofW (cc := cX5_settle) (maxL := 3) (ret := (some .int)) (by decide) rfl ?_
  intro p e s m args below meth c s₁ B hml hv
  obtain ⟨rfl, hsz, hP, hK, hD, hN⟩ := hv
  subst hsz
  have C : Cx p s m _ meth c cX5_settle (some .int) 3 RX5 lw_all := Cx_of B hml
  have X := Hx_start hP hK hD hN
  obtain ⟨hx, hb, hr, -, hown, hts, hlk⟩ := id C
  generalize va_A (wX5 hT aT yT gT ++ (wX8 (aT 3) aT_3 yT_3 gT_3 ++ (wX4 hT_14 aT_14 yT_14 gT_14 ++ (wX0 hT_15 aT_15 yT_15 gT_15)))) s.heap.size = A at X ⊢
  have hl := lv_entry ([.ref hT, .int x0]) (n := 3) (Nat.le_of_ble_eq_true rfl)
  rw [lg_entry_eq]
  generalize (lg_sl ([.ref hT, .int x0]) ++ List.replicate (3 - (lg_sl ([.ref hT, .int x0])).length) Slot.unset).toArray = ls at hl ⊢
  have hl : lv_has ls 3 [(0, .ref hT), (1, .int x0)] := hl
  unfold f_X5_settle at hF
  refine lv_aload_n hx hb dX5_settle_0 rfl (lv_at hl 0 rfl) ?_
  refine va_get (D := D.1) (ci := 5) (v := .int (gI gT 16)) (C := RX5) (T := TX5) (N := 18) hx hb hts wi_X5 hown X.1 X.2.1 0 rfl rfl 16 (by decide) (hts _ q3_67) (fun _ h9 => h9) (fl_get (by decide)) dX5_settle_1 ?_
  refine lv_iconst (v := (-1 : Int32)) hx hb dX5_settle_4 (by decide) ?_
  refine lv_icmp_eq (tgt := 18) hx hb dX5_settle_5 (by decide) (fun c => ?_) (fun c => ?_)
  · replace hF := iT c hF
    refine lv_iload_n hx hb dX5_settle_18 rfl (lv_at hl 1 rfl) ?_
    refine lv_iconst (v := (-1 : Int32)) hx hb dX5_settle_19 (by decide) ?_
    refine lv_icmp_eq (tgt := 30) hx hb dX5_settle_20 (by decide) (fun c => ?_) (fun c => ?_)
    · replace hF := iT c hF
      refine lv_aload_n hx hb dX5_settle_30 rfl (lv_at hl 0 rfl) ?_
      refine va_get (D := D.1) (ci := 5) (v := .ref (aT 3)) (C := RX5) (T := TX5) (N := 18) hx hb hts wi_X5 hown X.1 X.2.1 0 rfl rfl 3 (by decide) (hts _ q3_54) (fun _ h9 => h9) (fl_get (by decide)) dX5_settle_31 ?_
      refine lv_aload_n hx hb dX5_settle_34 rfl (lv_at hl 0 rfl) ?_
      obtain ⟨h_1, hF⟩ := grd_some hF
      refine va_get (D := D.1) (ci := 5) (v := .ref hT_14) (C := RX5) (T := TX5) (N := 18) hx hb hts wi_X5 hown X.1 X.2.1 0 rfl rfl 14 (by decide) (hts _ q3_65) (fun _ h9 => h9) ((fl_get (by decide)).trans (rf_eq h_1)) dX5_settle_35 ?_
      refine lv_aload_n hx hb dX5_settle_38 rfl (lv_at hl 0 rfl) ?_
      obtain ⟨h_2, hF⟩ := grd_some hF
      refine va_get (D := D.1) (ci := 5) (v := .ref hT_15) (C := RX5) (T := TX5) (N := 18) hx hb hts wi_X5 hown X.1 X.2.1 0 rfl rfl 15 (by decide) (hts _ q3_66) (fun _ h9 => h9) ((fl_get (by decide)).trans (rf_eq h_2)) dX5_settle_39 ?_
      obtain ⟨q_3, hc_4, hF⟩ := bnd_some hF
      refine cV_i (As := [.ref hT_14, .ref hT_15]) (rest := []) C X (c_X8_firstFault l D (aT 3) aT_3 yT_3 hT_14 aT_14 yT_14 hT_15 aT_15 yT_15 n gT_3 gT_14 gT_15 q_3 hc_4 _) (cwV 2 hts (good_V q4_218 q4_219 q4_220 q1_11 q4_221) rfl rfl rfl (by decide +kernel) ⟨Nat.le_of_ble_eq_true rfl, Nat.le_of_ble_eq_true rfl⟩) (va_recv X.1 X.2.1 (ci := 8) (q0 := 5) rfl rfl) (X.1.sub (tys' := tX8 yT_3 ++ (tX4 yT_14 ++ (tX0 yT_15))) [4, 5, 6, 7, 8, 9, 10, 11, 12, 13, 14, 15, 16, 17, 18, 19, 20, 21, 22, 23, 24, 25, 26, 27, 28, 29] rfl) (X.2.1.sub (ws' := wX8 (aT 3) aT_3 yT_3 gT_3 ++ (wX4 hT_14 aT_14 yT_14 gT_14 ++ (wX0 hT_15 aT_15 yT_15 gT_15))) [5, 6, 7, 8, 9, 10, 11, 12, 13, 14, 15, 16, 17, 18, 19, 20, 21, 22, 23, 24, 25, 26, 27, 28, 29, 30, 31, 32, 33] rfl) (X.2.2.1.sub (ws' := wX8 (aT 3) aT_3 yT_3 gT_3 ++ (wX4 hT_14 aT_14 yT_14 gT_14 ++ (wX0 hT_15 aT_15 yT_15 gT_15))) [5, 6, 7, 8, 9, 10, 11, 12, 13, 14, 15, 16, 17, 18, 19, 20, 21, 22, 23, 24, 25, 26, 27, 28, 29, 30, 31, 32, 33] (by decide) rfl) (free_of (wC := wX8 (aT 3) aT_3 yT_3 gT_3 ++ (wX4 hT_14 aT_14 yT_14 gT_14 ++ (wX0 hT_15 aT_15 yT_15 gT_15))) (isC := [5, 6, 7, 8, 9, 10, 11, 12, 13, 14, 15, 16, 17, 18, 19, 20, 21, 22, 23, 24, 25, 26, 27, 28, 29, 30, 31, 32, 33]) X rfl) hl.1 rfl rfl (Nat.le_of_ble_eq_true rfl) dX5_settle_42 ⟨Nat.le_of_ble_eq_true rfl, Nat.le_of_ble_eq_true rfl⟩ (fun t H1 locs1 ht hB hk hS => ?_)
      have X : Hx D (tX5 yT ++ (tX8 yT_3 ++ (tX4 yT_14 ++ (tX0 yT_15)))) A s H1 locs1 (wX5 hT aT yT gT ++ (wX8 (aT 3) aT_3 yT_3 q_3.2.1 ++ (wX4 hT_14 aT_14 yT_14 gT_14 ++ (wX0 hT_15 aT_15 yT_15 q_3.2.2)))) := Hx_after (isC := [5, 6, 7, 8, 9, 10, 11, 12, 13, 14, 15, 16, 17, 18, 19, 20, 21, 22, 23, 24, 25, 26, 27, 28, 29, 30, 31, 32, 33]) (isR := [0, 1, 2, 3, 4]) (pm := [0, 1, 2, 3, 4, 5, 6, 7, 8, 9, 10, 11, 12, 13, 14, 15, 16, 17, 18, 19, 20, 21, 22, 23, 24, 25, 26, 27, 28, 29, 30, 31, 32, 33]) (wr := wX5 hT aT yT gT) X ⟨rfl, rfl, by decide, by decide, rfl, by decide⟩ ht hB hk hS
      clear hk hS ht hB
      generalize H1 = H at X ⊢
      generalize locs1 = locs at X ⊢
      refine lv_istore_n (lv' := [(2, .int q_3.1), (0, .ref hT), (1, .int x0)]) hx hb dX5_settle_45 rfl hl (by decide) rfl (fun ls hl => ?_)
      refine lv_iload_n hx hb dX5_settle_46 rfl (lv_at hl 0 rfl) ?_
      refine lv_iconst (v := (-1 : Int32)) hx hb dX5_settle_47 (by decide) ?_
      refine lv_icmp_eq (tgt := 60) hx hb dX5_settle_48 (by decide) (fun c => ?_) (fun c => ?_)
      · replace hF := iT c hF
        refine lv_iconst (v := (0 : Int32)) hx hb dX5_settle_60 (by decide) ?_
        have hq := Option.some.inj hF
        subst hq
        exact rt_i C X dX5_settle_61
      · replace hF := iF c hF
        refine lv_aload_n hx hb dX5_settle_51 rfl (lv_at hl 1 rfl) ?_
        refine lv_iconst (v := (4 : Int32)) hx hb dX5_settle_52 (by decide) ?_
        refine lv_iload_n hx hb dX5_settle_53 rfl (lv_at hl 0 rfl) ?_
        obtain ⟨q_5, hc_6, hF⟩ := bnd_some hF
        refine cV_i (As := [.int (4 : Int32), .int q_3.1]) (rest := []) C X (c_X5_refuse l D hT aT yT gT (4 : Int32) q_3.1 q_5 hc_6 _) (cwV 2 hts (good_V q4_172 q4_174 q0_35 q1_10 q4_175) rfl rfl rfl (by decide +kernel) ⟨Nat.le_of_ble_eq_true rfl, Nat.le_of_ble_eq_true rfl⟩) (va_recv X.1 X.2.1 (ci := 5) (q0 := 0) rfl rfl) (X.1.sub (tys' := tX5 yT) [0, 1, 2, 3] rfl) (X.2.1.sub (ws' := wX5 hT aT yT gT) [0, 1, 2, 3, 4] rfl) (X.2.2.1.sub (ws' := wX5 hT aT yT gT) [0, 1, 2, 3, 4] (by decide) rfl) (free_of (wC := wX5 hT aT yT gT) (isC := [0, 1, 2, 3, 4]) X rfl) hl.1 rfl rfl (Nat.le_of_ble_eq_true rfl) dX5_settle_54 ⟨Nat.le_of_ble_eq_true rfl, Nat.le_of_ble_eq_true rfl⟩ (fun t H1 locs1 ht hB hk hS => ?_)
        have X : Hx D (tX5 yT ++ (tX8 yT_3 ++ (tX4 yT_14 ++ (tX0 yT_15)))) A s H1 locs1 (wX5 hT aT yT q_5.2 ++ (wX8 (aT 3) aT_3 yT_3 q_3.2.1 ++ (wX4 hT_14 aT_14 yT_14 gT_14 ++ (wX0 hT_15 aT_15 yT_15 q_3.2.2)))) := Hx_after (isC := [0, 1, 2, 3, 4]) (isR := [5, 6, 7, 8, 9, 10, 11, 12, 13, 14, 15, 16, 17, 18, 19, 20, 21, 22, 23, 24, 25, 26, 27, 28, 29, 30, 31, 32, 33]) (pm := [29, 30, 31, 32, 33, 0, 1, 2, 3, 4, 5, 6, 7, 8, 9, 10, 11, 12, 13, 14, 15, 16, 17, 18, 19, 20, 21, 22, 23, 24, 25, 26, 27, 28]) (wr := wX8 (aT 3) aT_3 yT_3 q_3.2.1 ++ (wX4 hT_14 aT_14 yT_14 gT_14 ++ (wX0 hT_15 aT_15 yT_15 q_3.2.2))) X ⟨rfl, rfl, by decide, by decide, rfl, by decide⟩ ht hB hk hS
        clear hk hS ht hB
        generalize H1 = H at X ⊢
        generalize locs1 = locs at X ⊢
        refine lv_goto (tgt := 61) hx hb dX5_settle_57 (by decide) ?_
        have hq := Option.some.inj hF
        subst hq
        exact rt_i C X dX5_settle_61
    · replace hF := iF c hF
      refine lv_aload_n hx hb dX5_settle_23 rfl (lv_at hl 0 rfl) ?_
      refine lv_iconst (v := (3 : Int32)) hx hb dX5_settle_24 (by decide) ?_
      refine lv_iload_n hx hb dX5_settle_25 rfl (lv_at hl 1 rfl) ?_
      obtain ⟨q_7, hc_8, hF⟩ := bnd_some hF
      refine cV_i (As := [.int (3 : Int32), .int x0]) (rest := []) C X (c_X5_refuse l D hT aT yT gT (3 : Int32) x0 q_7 hc_8 _) (cwV 2 hts (good_V q4_172 q4_174 q0_35 q1_10 q4_175) rfl rfl rfl (by decide +kernel) ⟨Nat.le_of_ble_eq_true rfl, Nat.le_of_ble_eq_true rfl⟩) (va_recv X.1 X.2.1 (ci := 5) (q0 := 0) rfl rfl) (X.1.sub (tys' := tX5 yT) [0, 1, 2, 3] rfl) (X.2.1.sub (ws' := wX5 hT aT yT gT) [0, 1, 2, 3, 4] rfl) (X.2.2.1.sub (ws' := wX5 hT aT yT gT) [0, 1, 2, 3, 4] (by decide) rfl) (free_of (wC := wX5 hT aT yT gT) (isC := [0, 1, 2, 3, 4]) X rfl) hl.1 rfl rfl (Nat.le_of_ble_eq_true rfl) dX5_settle_26 ⟨Nat.le_of_ble_eq_true rfl, Nat.le_of_ble_eq_true rfl⟩ (fun t H1 locs1 ht hB hk hS => ?_)
      have X : Hx D (tX5 yT ++ (tX8 yT_3 ++ (tX4 yT_14 ++ (tX0 yT_15)))) A s H1 locs1 (wX5 hT aT yT q_7.2 ++ (wX8 (aT 3) aT_3 yT_3 gT_3 ++ (wX4 hT_14 aT_14 yT_14 gT_14 ++ (wX0 hT_15 aT_15 yT_15 gT_15)))) := Hx_after (isC := [0, 1, 2, 3, 4]) (isR := [5, 6, 7, 8, 9, 10, 11, 12, 13, 14, 15, 16, 17, 18, 19, 20, 21, 22, 23, 24, 25, 26, 27, 28, 29, 30, 31, 32, 33]) (pm := [29, 30, 31, 32, 33, 0, 1, 2, 3, 4, 5, 6, 7, 8, 9, 10, 11, 12, 13, 14, 15, 16, 17, 18, 19, 20, 21, 22, 23, 24, 25, 26, 27, 28]) (wr := wX8 (aT 3) aT_3 yT_3 gT_3 ++ (wX4 hT_14 aT_14 yT_14 gT_14 ++ (wX0 hT_15 aT_15 yT_15 gT_15))) X ⟨rfl, rfl, by decide, by decide, rfl, by decide⟩ ht hB hk hS
      clear hk hS ht hB
      generalize H1 = H at X ⊢
      generalize locs1 = locs at X ⊢
      have hq := Option.some.inj hF
      subst hq
      exact rt_i C X dX5_settle_29
  · replace hF := iF c hF
    refine lv_aload_n hx hb dX5_settle_8 rfl (lv_at hl 0 rfl) ?_
    refine lv_iconst (v := (2 : Int32)) hx hb dX5_settle_9 (by decide) ?_
    refine lv_aload_n hx hb dX5_settle_10 rfl (lv_at hl 0 rfl) ?_
    refine va_get (D := D.1) (ci := 5) (v := .int (gI gT 16)) (C := RX5) (T := TX5) (N := 18) hx hb hts wi_X5 hown X.1 X.2.1 0 rfl rfl 16 (by decide) (hts _ q3_67) (fun _ h9 => h9) (fl_get (by decide)) dX5_settle_11 ?_
    obtain ⟨q_9, hc_10, hF⟩ := bnd_some hF
    refine cV_i (As := [.int (2 : Int32), .int (gI gT 16)]) (rest := []) C X (c_X5_refuse l D hT aT yT gT (2 : Int32) (gI gT 16) q_9 hc_10 _) (cwV 2 hts (good_V q4_172 q4_174 q0_35 q1_10 q4_175) rfl rfl rfl (by decide +kernel) ⟨Nat.le_of_ble_eq_true rfl, Nat.le_of_ble_eq_true rfl⟩) (va_recv X.1 X.2.1 (ci := 5) (q0 := 0) rfl rfl) (X.1.sub (tys' := tX5 yT) [0, 1, 2, 3] rfl) (X.2.1.sub (ws' := wX5 hT aT yT gT) [0, 1, 2, 3, 4] rfl) (X.2.2.1.sub (ws' := wX5 hT aT yT gT) [0, 1, 2, 3, 4] (by decide) rfl) (free_of (wC := wX5 hT aT yT gT) (isC := [0, 1, 2, 3, 4]) X rfl) hl.1 rfl rfl (Nat.le_of_ble_eq_true rfl) dX5_settle_14 ⟨Nat.le_of_ble_eq_true rfl, Nat.le_of_ble_eq_true rfl⟩ (fun t H1 locs1 ht hB hk hS => ?_)
    have X : Hx D (tX5 yT ++ (tX8 yT_3 ++ (tX4 yT_14 ++ (tX0 yT_15)))) A s H1 locs1 (wX5 hT aT yT q_9.2 ++ (wX8 (aT 3) aT_3 yT_3 gT_3 ++ (wX4 hT_14 aT_14 yT_14 gT_14 ++ (wX0 hT_15 aT_15 yT_15 gT_15)))) := Hx_after (isC := [0, 1, 2, 3, 4]) (isR := [5, 6, 7, 8, 9, 10, 11, 12, 13, 14, 15, 16, 17, 18, 19, 20, 21, 22, 23, 24, 25, 26, 27, 28, 29, 30, 31, 32, 33]) (pm := [29, 30, 31, 32, 33, 0, 1, 2, 3, 4, 5, 6, 7, 8, 9, 10, 11, 12, 13, 14, 15, 16, 17, 18, 19, 20, 21, 22, 23, 24, 25, 26, 27, 28]) (wr := wX8 (aT 3) aT_3 yT_3 gT_3 ++ (wX4 hT_14 aT_14 yT_14 gT_14 ++ (wX0 hT_15 aT_15 yT_15 gT_15))) X ⟨rfl, rfl, by decide, by decide, rfl, by decide⟩ ht hB hk hS
    clear hk hS ht hB
    generalize H1 = H at X ⊢
    generalize locs1 = locs at X ⊢
    have hq := Option.some.inj hF
    subst hq
    exact rt_i C X dX5_settle_17

/-! ### X5_readPlan -/
theorem dX5_readPlan_0 : decode cX5_readPlan 0 = .ok (.aload_n 2, 1) := by decide +kernel
theorem dX5_readPlan_1 : decode cX5_readPlan 1 = .ok (.invokevirtual 90, 3) := by decide +kernel
theorem dX5_readPlan_4 : decode cX5_readPlan 4 = .ok (.aload_n 0, 1) := by decide +kernel
theorem dX5_readPlan_5 : decode cX5_readPlan 5 = .ok (.aload_n 2, 1) := by decide +kernel
theorem dX5_readPlan_6 : decode cX5_readPlan 6 = .ok (.aload_n 2, 1) := by decide +kernel
theorem dX5_readPlan_7 : decode cX5_readPlan 7 = .ok (.getfield 65, 3) := by decide +kernel
theorem dX5_readPlan_10 : decode cX5_readPlan 10 = .ok (.invokevirtual 93, 3) := by decide +kernel
theorem dX5_readPlan_13 : decode cX5_readPlan 13 = .ok (.aload_n 0, 1) := by decide +kernel
theorem dX5_readPlan_14 : decode cX5_readPlan 14 = .ok (.getfield 77, 3) := by decide +kernel
theorem dX5_readPlan_17 : decode cX5_readPlan 17 = .ok (.iload_n 1, 1) := by decide +kernel
theorem dX5_readPlan_18 : decode cX5_readPlan 18 = .ok (.invokevirtual 97, 3) := by decide +kernel
theorem dX5_readPlan_21 : decode cX5_readPlan 21 = .ok (.iconst 1, 1) := by decide +kernel
theorem dX5_readPlan_22 : decode cX5_readPlan 22 = .ok (.istore_n 3, 1) := by decide +kernel
theorem dX5_readPlan_23 : decode cX5_readPlan 23 = .ok (.iconst 0, 1) := by decide +kernel
theorem dX5_readPlan_24 : decode cX5_readPlan 24 = .ok (.istore 4, 2) := by decide +kernel
theorem dX5_readPlan_26 : decode cX5_readPlan 26 = .ok (.iload 4, 2) := by decide +kernel
theorem dX5_readPlan_28 : decode cX5_readPlan 28 = .ok (.sipush 3000, 3) := by decide +kernel
theorem dX5_readPlan_31 : decode cX5_readPlan 31 = .ok (.if_icmp .gt 102, 3) := by decide +kernel
theorem dX5_readPlan_34 : decode cX5_readPlan 34 = .ok (.iload_n 3, 1) := by decide +kernel
theorem dX5_readPlan_35 : decode cX5_readPlan 35 = .ok (.ifCond .eq 98, 3) := by decide +kernel
theorem dX5_readPlan_38 : decode cX5_readPlan 38 = .ok (.aload_n 0, 1) := by decide +kernel
theorem dX5_readPlan_39 : decode cX5_readPlan 39 = .ok (.getfield 77, 3) := by decide +kernel
theorem dX5_readPlan_42 : decode cX5_readPlan 42 = .ok (.getfield 100, 3) := by decide +kernel
theorem dX5_readPlan_45 : decode cX5_readPlan 45 = .ok (.ifCond .eq 88, 3) := by decide +kernel
theorem dX5_readPlan_48 : decode cX5_readPlan 48 = .ok (.aload_n 0, 1) := by decide +kernel
theorem dX5_readPlan_49 : decode cX5_readPlan 49 = .ok (.getfield 77, 3) := by decide +kernel
theorem dX5_readPlan_52 : decode cX5_readPlan 52 = .ok (.getfield 100, 3) := by decide +kernel
theorem dX5_readPlan_55 : decode cX5_readPlan 55 = .ok (.tableswitch 70 10 13 #[29, 29, 54, 62], 29) := by decide +kernel
theorem dX5_readPlan_84 : decode cX5_readPlan 84 = .ok (.aload_n 0, 1) := by decide +kernel
theorem dX5_readPlan_85 : decode cX5_readPlan 85 = .ok (.aload_n 0, 1) := by decide +kernel
theorem dX5_readPlan_86 : decode cX5_readPlan 86 = .ok (.getfield 77, 3) := by decide +kernel
theorem dX5_readPlan_89 : decode cX5_readPlan 89 = .ok (.getfield 100, 3) := by decide +kernel
theorem dX5_readPlan_92 : decode cX5_readPlan 92 = .ok (.bipush 10, 2) := by decide +kernel
theorem dX5_readPlan_94 : decode cX5_readPlan 94 = .ok (.if_icmp .ne 7, 3) := by decide +kernel
theorem dX5_readPlan_97 : decode cX5_readPlan 97 = .ok (.iconst 1, 1) := by decide +kernel
theorem dX5_readPlan_98 : decode cX5_readPlan 98 = .ok (.goto 4, 3) := by decide +kernel
theorem dX5_readPlan_101 : decode cX5_readPlan 101 = .ok (.iconst 0, 1) := by decide +kernel
theorem dX5_readPlan_102 : decode cX5_readPlan 102 = .ok (.invokevirtual 103, 3) := by decide +kernel
theorem dX5_readPlan_105 : decode cX5_readPlan 105 = .ok (.istore_n 3, 1) := by decide +kernel
theorem dX5_readPlan_106 : decode cX5_readPlan 106 = .ok (.goto 21, 3) := by decide +kernel
theorem dX5_readPlan_109 : decode cX5_readPlan 109 = .ok (.aload_n 0, 1) := by decide +kernel
theorem dX5_readPlan_110 : decode cX5_readPlan 110 = .ok (.invokevirtual 107, 3) := by decide +kernel
theorem dX5_readPlan_113 : decode cX5_readPlan 113 = .ok (.istore_n 3, 1) := by decide +kernel
theorem dX5_readPlan_114 : decode cX5_readPlan 114 = .ok (.goto 13, 3) := by decide +kernel
theorem dX5_readPlan_117 : decode cX5_readPlan 117 = .ok (.aload_n 0, 1) := by decide +kernel
theorem dX5_readPlan_118 : decode cX5_readPlan 118 = .ok (.invokevirtual 111, 3) := by decide +kernel
theorem dX5_readPlan_121 : decode cX5_readPlan 121 = .ok (.istore_n 3, 1) := by decide +kernel
theorem dX5_readPlan_122 : decode cX5_readPlan 122 = .ok (.goto 5, 3) := by decide +kernel
theorem dX5_readPlan_125 : decode cX5_readPlan 125 = .ok (.iconst 0, 1) := by decide +kernel
theorem dX5_readPlan_126 : decode cX5_readPlan 126 = .ok (.istore_n 3, 1) := by decide +kernel
theorem dX5_readPlan_127 : decode cX5_readPlan 127 = .ok (.iinc 4 1, 3) := by decide +kernel
theorem dX5_readPlan_130 : decode cX5_readPlan 130 = .ok (.goto (-104), 3) := by decide +kernel
theorem dX5_readPlan_133 : decode cX5_readPlan 133 = .ok (.iload_n 3, 1) := by decide +kernel
theorem dX5_readPlan_134 : decode cX5_readPlan 134 = .ok (.ifCond .ne 16, 3) := by decide +kernel
theorem dX5_readPlan_137 : decode cX5_readPlan 137 = .ok (.aload_n 0, 1) := by decide +kernel
theorem dX5_readPlan_138 : decode cX5_readPlan 138 = .ok (.iconst 1, 1) := by decide +kernel
theorem dX5_readPlan_139 : decode cX5_readPlan 139 = .ok (.aload_n 0, 1) := by decide +kernel
theorem dX5_readPlan_140 : decode cX5_readPlan 140 = .ok (.getfield 77, 3) := by decide +kernel
theorem dX5_readPlan_143 : decode cX5_readPlan 143 = .ok (.getfield 114, 3) := by decide +kernel
theorem dX5_readPlan_146 : decode cX5_readPlan 146 = .ok (.invokevirtual 117, 3) := by decide +kernel
theorem dX5_readPlan_149 : decode cX5_readPlan 149 = .ok (.ireturn, 1) := by decide +kernel
theorem dX5_readPlan_150 : decode cX5_readPlan 150 = .ok (.aload_n 0, 1) := by decide +kernel
theorem dX5_readPlan_151 : decode cX5_readPlan 151 = .ok (.aload_n 0, 1) := by decide +kernel
theorem dX5_readPlan_152 : decode cX5_readPlan 152 = .ok (.getfield 51, 3) := by decide +kernel
theorem dX5_readPlan_155 : decode cX5_readPlan 155 = .ok (.iconst (-1), 1) := by decide +kernel
theorem dX5_readPlan_156 : decode cX5_readPlan 156 = .ok (.if_icmp .ne 14, 3) := by decide +kernel
theorem dX5_readPlan_159 : decode cX5_readPlan 159 = .ok (.aload_n 0, 1) := by decide +kernel
theorem dX5_readPlan_160 : decode cX5_readPlan 160 = .ok (.getfield 86, 3) := by decide +kernel
theorem dX5_readPlan_163 : decode cX5_readPlan 163 = .ok (.aload_n 2, 1) := by decide +kernel
theorem dX5_readPlan_164 : decode cX5_readPlan 164 = .ok (.invokevirtual 121, 3) := by decide +kernel
theorem dX5_readPlan_167 : decode cX5_readPlan 167 = .ok (.goto 4, 3) := by decide +kernel
theorem dX5_readPlan_170 : decode cX5_readPlan 170 = .ok (.iconst (-1), 1) := by decide +kernel
theorem dX5_readPlan_171 : decode cX5_readPlan 171 = .ok (.invokevirtual 125, 3) := by decide +kernel
theorem dX5_readPlan_174 : decode cX5_readPlan 174 = .ok (.ireturn, 1) := by decide +kernel
abbrev R_X5_readPlan : Room := ({ frames := 9, cells := 0, slots := 0, locals := 229 } : Room)
def b_X5_readPlan_171 (n : Nat) (hP1 : Nat) (aP1 : Nat → Nat) (rec : (Gs → Gs → Gs → Gs → Gs → Gs → Gs → Gs → Int32 → Int32 → Option (Int32 × Gs × Gs × Gs × Gs × Gs × Gs))) (gT : Gs) (gT_0 : Gs) (gT_1 : Gs) (gT_1_1 : Gs) (gT_2 : Gs) (gT_3 : Gs) (gP1 : Gs) (gP1_0 : Gs) (s0 : Int32) : Option (Int32 × Gs × Gs × Gs × Gs × Gs × Gs) :=
  bnd (f_X5_settle n hP1 (aP1 0) gT gT_3 gP1 gP1_0 s0) (fun q_7 => some (q_7.1, q_7.2.1, gT_1, gT_2, q_7.2.2.1, gP1, q_7.2.2.2))
def b_X5_readPlan_133 (n : Nat) (hP1 : Nat) (aP1 : Nat → Nat) (rec : (Gs → Gs → Gs → Gs → Gs → Gs → Gs → Gs → Int32 → Int32 → Option (Int32 × Gs × Gs × Gs × Gs × Gs × Gs))) (gT : Gs) (gT_0 : Gs) (gT_1 : Gs) (gT_1_1 : Gs) (gT_2 : Gs) (gT_3 : Gs) (gP1 : Gs) (gP1_0 : Gs) (v3 : Int32) : Option (Int32 × Gs × Gs × Gs × Gs × Gs × Gs) :=
  if v3 = 0 then (bnd (f_X5_refuse gT (1 : Int32) (gI gT_1 5)) (fun q_11 => some (q_11.1, q_11.2, gT_1, gT_2, gT_3, gP1, gP1_0))) else (if (gI gT 16) = (-1 : Int32) then (bnd (f_X2_firstFault n gT_2 gT_0 gP1 gP1_0) (fun q_9 => b_X5_readPlan_171 n hP1 aP1 rec gT gT_0 gT_1 gT_1_1 q_9.2.1 gT_3 gP1 q_9.2.2 q_9.1)) else (b_X5_readPlan_171 n hP1 aP1 rec gT gT_0 gT_1 gT_1_1 gT_2 gT_3 gP1 gP1_0 (-1 : Int32)))
def b_X5_readPlan_127 (n : Nat) (hP1 : Nat) (aP1 : Nat → Nat) (rec : (Gs → Gs → Gs → Gs → Gs → Gs → Gs → Gs → Int32 → Int32 → Option (Int32 × Gs × Gs × Gs × Gs × Gs × Gs))) (gT : Gs) (gT_0 : Gs) (gT_1 : Gs) (gT_1_1 : Gs) (gT_2 : Gs) (gT_3 : Gs) (gP1 : Gs) (gP1_0 : Gs) (v3 : Int32) (v4 : Int32) : Option (Int32 × Gs × Gs × Gs × Gs × Gs × Gs) :=
  rec gT gT_0 gT_1 gT_1_1 gT_2 gT_3 gP1 gP1_0 v3 (v4 + (1 : Int32))
def b_X5_readPlan_102 (n : Nat) (hP1 : Nat) (aP1 : Nat → Nat) (rec : (Gs → Gs → Gs → Gs → Gs → Gs → Gs → Gs → Int32 → Int32 → Option (Int32 × Gs × Gs × Gs × Gs × Gs × Gs))) (gT : Gs) (gT_0 : Gs) (gT_1 : Gs) (gT_1_1 : Gs) (gT_2 : Gs) (gT_3 : Gs) (gP1 : Gs) (gP1_0 : Gs) (v4 : Int32) (s0 : Int32) : Option (Int32 × Gs × Gs × Gs × Gs × Gs × Gs) :=
  bnd (f_X5_readThing n hP1 (aP1 0) gT gT_0 gT_1 gT_1_1 gP1 gP1_0 s0) (fun q_13 => b_X5_readPlan_127 n hP1 aP1 rec q_13.2.1 gT_0 q_13.2.2.1 gT_1_1 gT_2 gT_3 q_13.2.2.2.1 q_13.2.2.2.2 q_13.1 v4)
def b_X5_readPlan_84 (n : Nat) (hP1 : Nat) (aP1 : Nat → Nat) (rec : (Gs → Gs → Gs → Gs → Gs → Gs → Gs → Gs → Int32 → Int32 → Option (Int32 × Gs × Gs × Gs × Gs × Gs × Gs))) (gT : Gs) (gT_0 : Gs) (gT_1 : Gs) (gT_1_1 : Gs) (gT_2 : Gs) (gT_3 : Gs) (gP1 : Gs) (gP1_0 : Gs) (v4 : Int32) : Option (Int32 × Gs × Gs × Gs × Gs × Gs × Gs) :=
  if (gI gT_1 4) = (10 : Int32) then (b_X5_readPlan_102 n hP1 aP1 rec gT gT_0 gT_1 gT_1_1 gT_2 gT_3 gP1 gP1_0 v4 (1 : Int32)) else (b_X5_readPlan_102 n hP1 aP1 rec gT gT_0 gT_1 gT_1_1 gT_2 gT_3 gP1 gP1_0 v4 (0 : Int32))
def h_X5_readPlan_26 (n : Nat) (hP1 : Nat) (aP1 : Nat → Nat) (rec : (Gs → Gs → Gs → Gs → Gs → Gs → Gs → Gs → Int32 → Int32 → Option (Int32 × Gs × Gs × Gs × Gs × Gs × Gs))) (gT : Gs) (gT_0 : Gs) (gT_1 : Gs) (gT_1_1 : Gs) (gT_2 : Gs) (gT_3 : Gs) (gP1 : Gs) (gP1_0 : Gs) (v3 : Int32) (v4 : Int32) : Option (Int32 × Gs × Gs × Gs × Gs × Gs × Gs) :=
  if (3000 : Int32) < v4 then (b_X5_readPlan_133 n hP1 aP1 rec gT gT_0 gT_1 gT_1_1 gT_2 gT_3 gP1 gP1_0 v3) else (if v3 = 0 then (b_X5_readPlan_133 n hP1 aP1 rec gT gT_0 gT_1 gT_1_1 gT_2 gT_3 gP1 gP1_0 v3) else (if (gI gT_1 4) = 0 then (b_X5_readPlan_133 n hP1 aP1 rec gT gT_0 gT_1 gT_1_1 gT_2 gT_3 gP1 gP1_0 v3) else (if (gI gT_1 4) = (10 : Int32) then (b_X5_readPlan_84 n hP1 aP1 rec gT gT_0 gT_1 gT_1_1 gT_2 gT_3 gP1 gP1_0 v4) else (if (gI gT_1 4) = (11 : Int32) then (b_X5_readPlan_84 n hP1 aP1 rec gT gT_0 gT_1 gT_1_1 gT_2 gT_3 gP1 gP1_0 v4) else (if (gI gT_1 4) = (12 : Int32) then (bnd (f_X5_readCam n hP1 (aP1 0) gT gT_0 gT_1 gT_1_1 gP1 gP1_0) (fun q_15 => b_X5_readPlan_127 n hP1 aP1 rec q_15.2.1 gT_0 q_15.2.2.1 gT_1_1 gT_2 gT_3 q_15.2.2.2.1 q_15.2.2.2.2 q_15.1 v4)) else (if (gI gT_1 4) = (13 : Int32) then (bnd (f_X5_readBell n hP1 (aP1 0) gT gT_0 gT_1 gT_1_1 gP1 gP1_0) (fun q_17 => b_X5_readPlan_127 n hP1 aP1 rec q_17.2.1 gT_0 q_17.2.2.1 gT_1_1 gT_2 gT_3 q_17.2.2.2.1 q_17.2.2.2.2 q_17.1 v4)) else (b_X5_readPlan_127 n hP1 aP1 rec gT gT_0 gT_1 gT_1_1 gT_2 gT_3 gP1 gP1_0 (0 : Int32) v4)))))))
def L_X5_readPlan (n : Nat) (hP1 : Nat) (aP1 : Nat → Nat) : Nat → (Gs → Gs → Gs → Gs → Gs → Gs → Gs → Gs → Int32 → Int32 → Option (Int32 × Gs × Gs × Gs × Gs × Gs × Gs))
  | 0 => ((fun _ _ _ _ _ _ _ _ _ _ => none))
  | k + 1 => (h_X5_readPlan_26 n hP1 aP1 (L_X5_readPlan n hP1 aP1 k))
def f_X5_readPlan (n : Nat) (hP1 : Nat) (aP1 : Nat → Nat) (gT : Gs) (gT_0 : Gs) (gT_1 : Gs) (gT_1_1 : Gs) (gT_2 : Gs) (gT_3 : Gs) (gP1 : Gs) (gP1_0 : Gs) (x0 : Int32) : Option (Int32 × Gs × Gs × Gs × Gs × Gs × Gs) :=
  bnd (f_X4_clear gP1 gP1_0) (fun q_1 => bnd (f_X5_begin hP1 (aP1 0) gT q_1.1 q_1.2) (fun q_3 => bnd (f_X7_begin n gT_1 gT_0 gT_1_1 x0) (fun q_5 => (L_X5_readPlan n hP1 aP1 n) q_3 gT_0 q_5 gT_1_1 gT_2 gT_3 q_1.1 q_1.2 (1 : Int32) (0 : Int32))))
def S_X5_readPlan_171 (l : Launch) (D : Dx) (hT : Nat) (aT : Nat → Nat) (yT : Nat → ClassId) (aT_0 : Nat → Nat) (yT_0 : Nat → ClassId) (aT_1 : Nat → Nat) (yT_1 : Nat → ClassId) (aT_1_1 : Nat → Nat) (yT_1_1 : Nat → ClassId) (aT_2 : Nat → Nat) (yT_2 : Nat → ClassId) (aT_3 : Nat → Nat) (yT_3 : Nat → ClassId) (hP1 : Nat) (aP1 : Nat → Nat) (yP1 : Nat → ClassId) (aP1_0 : Nat → Nat) (yP1_0 : Nat → ClassId) (fn : Gs → Gs → Gs → Gs → Gs → Gs → Gs → Gs → Int32 → Option (Int32 × Gs × Gs × Gs × Gs × Gs × Gs)) : Prop :=
  ∀ {p : Program} {e : Env} {s : State} {m : MethodId} {args : Array Value} {below : List Frame} {meth : Method} {c : Code} {H : Heap} {locs : List Loc} {A : Nat → Prop} {ls : Array Slot} {gT : Gs} {gT_0 : Gs} {gT_1 : Gs} {gT_1_1 : Gs} {gT_2 : Gs} {gT_3 : Gs} {gP1 : Gs} {gP1_0 : Gs} {s0 : Int32} {q : Int32 × Gs × Gs × Gs × Gs × Gs × Gs}, Cx p s m args meth c cX5_readPlan (some .int) 5 RX5 lw_all → Hx D (tX5 yT ++ (tTP yT_0 ++ (tX7 yT_1 ++ (tX6 yT_1_1 ++ (tX2 yT_2 ++ (tX8 yT_3 ++ (tX4 yP1 ++ (tX0 yP1_0)))))))) A s H locs (wX5 hT aT yT gT ++ (wTP (aT 0) aT_0 yT_0 gT_0 ++ (wX7 (aT 1) (va_up aT_1 0 (aT 0)) yT_1 gT_1 ++ (wX6 ((va_up aT_1 0 (aT 0)) 1) aT_1_1 yT_1_1 gT_1_1 ++ (wX2 (aT 2) (va_up aT_2 0 (aT 0)) yT_2 gT_2 ++ (wX8 (aT 3) aT_3 yT_3 gT_3 ++ (wX4 hP1 aP1 yP1 gP1 ++ (wX0 (aP1 0) aP1_0 yP1_0 gP1_0)))))))) → lv_has ls 5 [] → fn gT gT_0 gT_1 gT_1_1 gT_2 gT_3 gP1 gP1_0 s0 = some q → W p l e R_X5_readPlan s m args below meth c H locs 0 0 (MQ below (QI D A (wX5 hT aT yT q.2.1 ++ (wTP (aT 0) aT_0 yT_0 gT_0 ++ (wX7 (aT 1) (va_up aT_1 0 (aT 0)) yT_1 q.2.2.1 ++ (wX6 ((va_up aT_1 0 (aT 0)) 1) aT_1_1 yT_1_1 gT_1_1 ++ (wX2 (aT 2) (va_up aT_2 0 (aT 0)) yT_2 q.2.2.2.1 ++ (wX8 (aT 3) aT_3 yT_3 q.2.2.2.2.1 ++ (wX4 hP1 aP1 yP1 q.2.2.2.2.2.1 ++ (wX0 (aP1 0) aP1_0 yP1_0 q.2.2.2.2.2.2)))))))) q.1) args s 0 0 A) (F0 m 171 ls [.int s0, .ref hT])
def S_X5_readPlan_133 (l : Launch) (D : Dx) (hT : Nat) (aT : Nat → Nat) (yT : Nat → ClassId) (aT_0 : Nat → Nat) (yT_0 : Nat → ClassId) (aT_1 : Nat → Nat) (yT_1 : Nat → ClassId) (aT_1_1 : Nat → Nat) (yT_1_1 : Nat → ClassId) (aT_2 : Nat → Nat) (yT_2 : Nat → ClassId) (aT_3 : Nat → Nat) (yT_3 : Nat → ClassId) (hP1 : Nat) (aP1 : Nat → Nat) (yP1 : Nat → ClassId) (aP1_0 : Nat → Nat) (yP1_0 : Nat → ClassId) (fn : Gs → Gs → Gs → Gs → Gs → Gs → Gs → Gs → Int32 → Option (Int32 × Gs × Gs × Gs × Gs × Gs × Gs)) : Prop :=
  ∀ {p : Program} {e : Env} {s : State} {m : MethodId} {args : Array Value} {below : List Frame} {meth : Method} {c : Code} {H : Heap} {locs : List Loc} {A : Nat → Prop} {ls : Array Slot} {gT : Gs} {gT_0 : Gs} {gT_1 : Gs} {gT_1_1 : Gs} {gT_2 : Gs} {gT_3 : Gs} {gP1 : Gs} {gP1_0 : Gs} {v3 : Int32} {q : Int32 × Gs × Gs × Gs × Gs × Gs × Gs}, Cx p s m args meth c cX5_readPlan (some .int) 5 RX5 lw_all → Hx D (tX5 yT ++ (tTP yT_0 ++ (tX7 yT_1 ++ (tX6 yT_1_1 ++ (tX2 yT_2 ++ (tX8 yT_3 ++ (tX4 yP1 ++ (tX0 yP1_0)))))))) A s H locs (wX5 hT aT yT gT ++ (wTP (aT 0) aT_0 yT_0 gT_0 ++ (wX7 (aT 1) (va_up aT_1 0 (aT 0)) yT_1 gT_1 ++ (wX6 ((va_up aT_1 0 (aT 0)) 1) aT_1_1 yT_1_1 gT_1_1 ++ (wX2 (aT 2) (va_up aT_2 0 (aT 0)) yT_2 gT_2 ++ (wX8 (aT 3) aT_3 yT_3 gT_3 ++ (wX4 hP1 aP1 yP1 gP1 ++ (wX0 (aP1 0) aP1_0 yP1_0 gP1_0)))))))) → lv_has ls 5 [(0, .ref hT), (2, .ref hP1), (3, .int v3)] → fn gT gT_0 gT_1 gT_1_1 gT_2 gT_3 gP1 gP1_0 v3 = some q → W p l e R_X5_readPlan s m args below meth c H locs 0 0 (MQ below (QI D A (wX5 hT aT yT q.2.1 ++ (wTP (aT 0) aT_0 yT_0 gT_0 ++ (wX7 (aT 1) (va_up aT_1 0 (aT 0)) yT_1 q.2.2.1 ++ (wX6 ((va_up aT_1 0 (aT 0)) 1) aT_1_1 yT_1_1 gT_1_1 ++ (wX2 (aT 2) (va_up aT_2 0 (aT 0)) yT_2 q.2.2.2.1 ++ (wX8 (aT 3) aT_3 yT_3 q.2.2.2.2.1 ++ (wX4 hP1 aP1 yP1 q.2.2.2.2.2.1 ++ (wX0 (aP1 0) aP1_0 yP1_0 q.2.2.2.2.2.2)))))))) q.1) args s 0 0 A) (F0 m 133 ls [])
def S_X5_readPlan_127 (l : Launch) (D : Dx) (hT : Nat) (aT : Nat → Nat) (yT : Nat → ClassId) (aT_0 : Nat → Nat) (yT_0 : Nat → ClassId) (aT_1 : Nat → Nat) (yT_1 : Nat → ClassId) (aT_1_1 : Nat → Nat) (yT_1_1 : Nat → ClassId) (aT_2 : Nat → Nat) (yT_2 : Nat → ClassId) (aT_3 : Nat → Nat) (yT_3 : Nat → ClassId) (hP1 : Nat) (aP1 : Nat → Nat) (yP1 : Nat → ClassId) (aP1_0 : Nat → Nat) (yP1_0 : Nat → ClassId) (fn : Gs → Gs → Gs → Gs → Gs → Gs → Gs → Gs → Int32 → Int32 → Option (Int32 × Gs × Gs × Gs × Gs × Gs × Gs)) : Prop :=
  ∀ {p : Program} {e : Env} {s : State} {m : MethodId} {args : Array Value} {below : List Frame} {meth : Method} {c : Code} {H : Heap} {locs : List Loc} {A : Nat → Prop} {ls : Array Slot} {gT : Gs} {gT_0 : Gs} {gT_1 : Gs} {gT_1_1 : Gs} {gT_2 : Gs} {gT_3 : Gs} {gP1 : Gs} {gP1_0 : Gs} {v3 : Int32} {v4 : Int32} {q : Int32 × Gs × Gs × Gs × Gs × Gs × Gs}, Cx p s m args meth c cX5_readPlan (some .int) 5 RX5 lw_all → Hx D (tX5 yT ++ (tTP yT_0 ++ (tX7 yT_1 ++ (tX6 yT_1_1 ++ (tX2 yT_2 ++ (tX8 yT_3 ++ (tX4 yP1 ++ (tX0 yP1_0)))))))) A s H locs (wX5 hT aT yT gT ++ (wTP (aT 0) aT_0 yT_0 gT_0 ++ (wX7 (aT 1) (va_up aT_1 0 (aT 0)) yT_1 gT_1 ++ (wX6 ((va_up aT_1 0 (aT 0)) 1) aT_1_1 yT_1_1 gT_1_1 ++ (wX2 (aT 2) (va_up aT_2 0 (aT 0)) yT_2 gT_2 ++ (wX8 (aT 3) aT_3 yT_3 gT_3 ++ (wX4 hP1 aP1 yP1 gP1 ++ (wX0 (aP1 0) aP1_0 yP1_0 gP1_0)))))))) → lv_has ls 5 [(0, .ref hT), (2, .ref hP1), (3, .int v3), (4, .int v4)] → fn gT gT_0 gT_1 gT_1_1 gT_2 gT_3 gP1 gP1_0 v3 v4 = some q → W p l e R_X5_readPlan s m args below meth c H locs 0 0 (MQ below (QI D A (wX5 hT aT yT q.2.1 ++ (wTP (aT 0) aT_0 yT_0 gT_0 ++ (wX7 (aT 1) (va_up aT_1 0 (aT 0)) yT_1 q.2.2.1 ++ (wX6 ((va_up aT_1 0 (aT 0)) 1) aT_1_1 yT_1_1 gT_1_1 ++ (wX2 (aT 2) (va_up aT_2 0 (aT 0)) yT_2 q.2.2.2.1 ++ (wX8 (aT 3) aT_3 yT_3 q.2.2.2.2.1 ++ (wX4 hP1 aP1 yP1 q.2.2.2.2.2.1 ++ (wX0 (aP1 0) aP1_0 yP1_0 q.2.2.2.2.2.2)))))))) q.1) args s 0 0 A) (F0 m 127 ls [])
def S_X5_readPlan_102 (l : Launch) (D : Dx) (hT : Nat) (aT : Nat → Nat) (yT : Nat → ClassId) (aT_0 : Nat → Nat) (yT_0 : Nat → ClassId) (aT_1 : Nat → Nat) (yT_1 : Nat → ClassId) (aT_1_1 : Nat → Nat) (yT_1_1 : Nat → ClassId) (aT_2 : Nat → Nat) (yT_2 : Nat → ClassId) (aT_3 : Nat → Nat) (yT_3 : Nat → ClassId) (hP1 : Nat) (aP1 : Nat → Nat) (yP1 : Nat → ClassId) (aP1_0 : Nat → Nat) (yP1_0 : Nat → ClassId) (fn : Gs → Gs → Gs → Gs → Gs → Gs → Gs → Gs → Int32 → Int32 → Option (Int32 × Gs × Gs × Gs × Gs × Gs × Gs)) : Prop :=
  ∀ {p : Program} {e : Env} {s : State} {m : MethodId} {args : Array Value} {below : List Frame} {meth : Method} {c : Code} {H : Heap} {locs : List Loc} {A : Nat → Prop} {ls : Array Slot} {gT : Gs} {gT_0 : Gs} {gT_1 : Gs} {gT_1_1 : Gs} {gT_2 : Gs} {gT_3 : Gs} {gP1 : Gs} {gP1_0 : Gs} {v4 : Int32} {s0 : Int32} {q : Int32 × Gs × Gs × Gs × Gs × Gs × Gs}, Cx p s m args meth c cX5_readPlan (some .int) 5 RX5 lw_all → Hx D (tX5 yT ++ (tTP yT_0 ++ (tX7 yT_1 ++ (tX6 yT_1_1 ++ (tX2 yT_2 ++ (tX8 yT_3 ++ (tX4 yP1 ++ (tX0 yP1_0)))))))) A s H locs (wX5 hT aT yT gT ++ (wTP (aT 0) aT_0 yT_0 gT_0 ++ (wX7 (aT 1) (va_up aT_1 0 (aT 0)) yT_1 gT_1 ++ (wX6 ((va_up aT_1 0 (aT 0)) 1) aT_1_1 yT_1_1 gT_1_1 ++ (wX2 (aT 2) (va_up aT_2 0 (aT 0)) yT_2 gT_2 ++ (wX8 (aT 3) aT_3 yT_3 gT_3 ++ (wX4 hP1 aP1 yP1 gP1 ++ (wX0 (aP1 0) aP1_0 yP1_0 gP1_0)))))))) → lv_has ls 5 [(0, .ref hT), (2, .ref hP1), (4, .int v4)] → fn gT gT_0 gT_1 gT_1_1 gT_2 gT_3 gP1 gP1_0 v4 s0 = some q → W p l e R_X5_readPlan s m args below meth c H locs 0 0 (MQ below (QI D A (wX5 hT aT yT q.2.1 ++ (wTP (aT 0) aT_0 yT_0 gT_0 ++ (wX7 (aT 1) (va_up aT_1 0 (aT 0)) yT_1 q.2.2.1 ++ (wX6 ((va_up aT_1 0 (aT 0)) 1) aT_1_1 yT_1_1 gT_1_1 ++ (wX2 (aT 2) (va_up aT_2 0 (aT 0)) yT_2 q.2.2.2.1 ++ (wX8 (aT 3) aT_3 yT_3 q.2.2.2.2.1 ++ (wX4 hP1 aP1 yP1 q.2.2.2.2.2.1 ++ (wX0 (aP1 0) aP1_0 yP1_0 q.2.2.2.2.2.2)))))))) q.1) args s 0 0 A) (F0 m 102 ls [.int s0, .ref hT])
def S_X5_readPlan_84 (l : Launch) (D : Dx) (hT : Nat) (aT : Nat → Nat) (yT : Nat → ClassId) (aT_0 : Nat → Nat) (yT_0 : Nat → ClassId) (aT_1 : Nat → Nat) (yT_1 : Nat → ClassId) (aT_1_1 : Nat → Nat) (yT_1_1 : Nat → ClassId) (aT_2 : Nat → Nat) (yT_2 : Nat → ClassId) (aT_3 : Nat → Nat) (yT_3 : Nat → ClassId) (hP1 : Nat) (aP1 : Nat → Nat) (yP1 : Nat → ClassId) (aP1_0 : Nat → Nat) (yP1_0 : Nat → ClassId) (fn : Gs → Gs → Gs → Gs → Gs → Gs → Gs → Gs → Int32 → Option (Int32 × Gs × Gs × Gs × Gs × Gs × Gs)) : Prop :=
  ∀ {p : Program} {e : Env} {s : State} {m : MethodId} {args : Array Value} {below : List Frame} {meth : Method} {c : Code} {H : Heap} {locs : List Loc} {A : Nat → Prop} {ls : Array Slot} {gT : Gs} {gT_0 : Gs} {gT_1 : Gs} {gT_1_1 : Gs} {gT_2 : Gs} {gT_3 : Gs} {gP1 : Gs} {gP1_0 : Gs} {v4 : Int32} {q : Int32 × Gs × Gs × Gs × Gs × Gs × Gs}, Cx p s m args meth c cX5_readPlan (some .int) 5 RX5 lw_all → Hx D (tX5 yT ++ (tTP yT_0 ++ (tX7 yT_1 ++ (tX6 yT_1_1 ++ (tX2 yT_2 ++ (tX8 yT_3 ++ (tX4 yP1 ++ (tX0 yP1_0)))))))) A s H locs (wX5 hT aT yT gT ++ (wTP (aT 0) aT_0 yT_0 gT_0 ++ (wX7 (aT 1) (va_up aT_1 0 (aT 0)) yT_1 gT_1 ++ (wX6 ((va_up aT_1 0 (aT 0)) 1) aT_1_1 yT_1_1 gT_1_1 ++ (wX2 (aT 2) (va_up aT_2 0 (aT 0)) yT_2 gT_2 ++ (wX8 (aT 3) aT_3 yT_3 gT_3 ++ (wX4 hP1 aP1 yP1 gP1 ++ (wX0 (aP1 0) aP1_0 yP1_0 gP1_0)))))))) → lv_has ls 5 [(0, .ref hT), (2, .ref hP1), (4, .int v4)] → fn gT gT_0 gT_1 gT_1_1 gT_2 gT_3 gP1 gP1_0 v4 = some q → W p l e R_X5_readPlan s m args below meth c H locs 0 0 (MQ below (QI D A (wX5 hT aT yT q.2.1 ++ (wTP (aT 0) aT_0 yT_0 gT_0 ++ (wX7 (aT 1) (va_up aT_1 0 (aT 0)) yT_1 q.2.2.1 ++ (wX6 ((va_up aT_1 0 (aT 0)) 1) aT_1_1 yT_1_1 gT_1_1 ++ (wX2 (aT 2) (va_up aT_2 0 (aT 0)) yT_2 q.2.2.2.1 ++ (wX8 (aT 3) aT_3 yT_3 q.2.2.2.2.1 ++ (wX4 hP1 aP1 yP1 q.2.2.2.2.2.1 ++ (wX0 (aP1 0) aP1_0 yP1_0 q.2.2.2.2.2.2)))))))) q.1) args s 0 0 A) (F0 m 84 ls [])
def S_X5_readPlan_26 (l : Launch) (D : Dx) (hT : Nat) (aT : Nat → Nat) (yT : Nat → ClassId) (aT_0 : Nat → Nat) (yT_0 : Nat → ClassId) (aT_1 : Nat → Nat) (yT_1 : Nat → ClassId) (aT_1_1 : Nat → Nat) (yT_1_1 : Nat → ClassId) (aT_2 : Nat → Nat) (yT_2 : Nat → ClassId) (aT_3 : Nat → Nat) (yT_3 : Nat → ClassId) (hP1 : Nat) (aP1 : Nat → Nat) (yP1 : Nat → ClassId) (aP1_0 : Nat → Nat) (yP1_0 : Nat → ClassId) (fn : Gs → Gs → Gs → Gs → Gs → Gs → Gs → Gs → Int32 → Int32 → Option (Int32 × Gs × Gs × Gs × Gs × Gs × Gs)) : Prop :=
  ∀ {p : Program} {e : Env} {s : State} {m : MethodId} {args : Array Value} {below : List Frame} {meth : Method} {c : Code} {H : Heap} {locs : List Loc} {A : Nat → Prop} {ls : Array Slot} {gT : Gs} {gT_0 : Gs} {gT_1 : Gs} {gT_1_1 : Gs} {gT_2 : Gs} {gT_3 : Gs} {gP1 : Gs} {gP1_0 : Gs} {v3 : Int32} {v4 : Int32} {q : Int32 × Gs × Gs × Gs × Gs × Gs × Gs}, Cx p s m args meth c cX5_readPlan (some .int) 5 RX5 lw_all → Hx D (tX5 yT ++ (tTP yT_0 ++ (tX7 yT_1 ++ (tX6 yT_1_1 ++ (tX2 yT_2 ++ (tX8 yT_3 ++ (tX4 yP1 ++ (tX0 yP1_0)))))))) A s H locs (wX5 hT aT yT gT ++ (wTP (aT 0) aT_0 yT_0 gT_0 ++ (wX7 (aT 1) (va_up aT_1 0 (aT 0)) yT_1 gT_1 ++ (wX6 ((va_up aT_1 0 (aT 0)) 1) aT_1_1 yT_1_1 gT_1_1 ++ (wX2 (aT 2) (va_up aT_2 0 (aT 0)) yT_2 gT_2 ++ (wX8 (aT 3) aT_3 yT_3 gT_3 ++ (wX4 hP1 aP1 yP1 gP1 ++ (wX0 (aP1 0) aP1_0 yP1_0 gP1_0)))))))) → lv_has ls 5 [(0, .ref hT), (2, .ref hP1), (3, .int v3), (4, .int v4)] → fn gT gT_0 gT_1 gT_1_1 gT_2 gT_3 gP1 gP1_0 v3 v4 = some q → W p l e R_X5_readPlan s m args below meth c H locs 0 0 (MQ below (QI D A (wX5 hT aT yT q.2.1 ++ (wTP (aT 0) aT_0 yT_0 gT_0 ++ (wX7 (aT 1) (va_up aT_1 0 (aT 0)) yT_1 q.2.2.1 ++ (wX6 ((va_up aT_1 0 (aT 0)) 1) aT_1_1 yT_1_1 gT_1_1 ++ (wX2 (aT 2) (va_up aT_2 0 (aT 0)) yT_2 q.2.2.2.1 ++ (wX8 (aT 3) aT_3 yT_3 q.2.2.2.2.1 ++ (wX4 hP1 aP1 yP1 q.2.2.2.2.2.1 ++ (wX0 (aP1 0) aP1_0 yP1_0 q.2.2.2.2.2.2)))))))) q.1) args s 0 0 A) (F0 m 26 ls [])
def SH_X5_readPlan (l : Launch) (D : Dx) (hT : Nat) (aT : Nat → Nat) (yT : Nat → ClassId) (aT_0 : Nat → Nat) (yT_0 : Nat → ClassId) (aT_1 : Nat → Nat) (yT_1 : Nat → ClassId) (aT_1_1 : Nat → Nat) (yT_1_1 : Nat → ClassId) (aT_2 : Nat → Nat) (yT_2 : Nat → ClassId) (aT_3 : Nat → Nat) (yT_3 : Nat → ClassId) (hP1 : Nat) (aP1 : Nat → Nat) (yP1 : Nat → ClassId) (aP1_0 : Nat → Nat) (yP1_0 : Nat → ClassId) (rec : (Gs → Gs → Gs → Gs → Gs → Gs → Gs → Gs → Int32 → Int32 → Option (Int32 × Gs × Gs × Gs × Gs × Gs × Gs))) : Prop := S_X5_readPlan_26 l D hT aT yT aT_0 yT_0 aT_1 yT_1 aT_1_1 yT_1_1 aT_2 yT_2 aT_3 yT_3 hP1 aP1 yP1 aP1_0 yP1_0 rec
set_option maxHeartbeats 4000000 in
set_option maxRecDepth 100000 in
theorem k_X5_readPlan_171 (l : Launch) (D : Dx) (hT : Nat) (aT : Nat → Nat) (yT : Nat → ClassId) (aT_0 : Nat → Nat) (yT_0 : Nat → ClassId) (aT_1 : Nat → Nat) (yT_1 : Nat → ClassId) (aT_1_1 : Nat → Nat) (yT_1_1 : Nat → ClassId) (aT_2 : Nat → Nat) (yT_2 : Nat → ClassId) (aT_3 : Nat → Nat) (yT_3 : Nat → ClassId) (hP1 : Nat) (aP1 : Nat → Nat) (yP1 : Nat → ClassId) (aP1_0 : Nat → Nat) (yP1_0 : Nat → ClassId) (n : Nat) (rec : (Gs → Gs → Gs → Gs → Gs → Gs → Gs → Gs → Int32 → Int32 → Option (Int32 × Gs × Gs × Gs × Gs × Gs × Gs))) (IH : SH_X5_readPlan l D hT aT yT aT_0 yT_0 aT_1 yT_1 aT_1_1 yT_1_1 aT_2 yT_2 aT_3 yT_3 hP1 aP1 yP1 aP1_0 yP1_0 rec) : S_X5_readPlan_171 l D hT aT yT aT_0 yT_0 aT_1 yT_1 aT_1_1 yT_1_1 aT_2 yT_2 aT_3 yT_3 hP1 aP1 yP1 aP1_0 yP1_0 (b_X5_readPlan_171 n hP1 aP1 rec) := by
  intro p e s m args below meth c H locs A ls gT gT_0 gT_1 gT_1_1 gT_2 gT_3 gP1 gP1_0 s0 q C X hl hF
  obtain ⟨hx, hb, hr, hml, hown, hts, hlk⟩ := id C
  unfold b_X5_readPlan_171 at hF
  obtain ⟨q_7, hc_8, hF⟩ := bnd_some hF
  refine cV_i (As := [.int s0]) (rest := []) C X (c_X5_settle l D hT aT yT aT_3 yT_3 hP1 aP1 yP1 (aP1 0) aP1_0 yP1_0 n gT gT_3 gP1 gP1_0 s0 q_7 hc_8 _) (cwV 1 hts (good_V q4_214 q4_216 q0_41 q1_10 q4_217) rfl rfl rfl (by decide +kernel) ⟨Nat.le_of_ble_eq_true rfl, Nat.le_of_ble_eq_true rfl⟩) (va_recv X.1 X.2.1 (ci := 5) (q0 := 0) rfl rfl) (X.1.sub (tys' := tX5 yT ++ (tX8 yT_3 ++ (tX4 yP1 ++ (tX0 yP1_0)))) [0, 1, 2, 3, 6, 7, 8, 9, 10, 11, 12, 13, 14, 15, 16, 17, 18, 19, 20, 21, 22, 23, 24, 25, 26, 27, 28, 29, 30, 31] rfl) (X.2.1.sub (ws' := wX5 hT aT yT gT ++ (wX8 (aT 3) aT_3 yT_3 gT_3 ++ (wX4 hP1 aP1 yP1 gP1 ++ (wX0 (aP1 0) aP1_0 yP1_0 gP1_0)))) [0, 1, 2, 3, 4, 10, 11, 12, 13, 14, 15, 16, 17, 18, 19, 20, 21, 22, 23, 24, 25, 26, 27, 28, 29, 30, 31, 32, 33, 34, 35, 36, 37, 38] rfl) (X.2.2.1.sub (ws' := wX5 hT aT yT gT ++ (wX8 (aT 3) aT_3 yT_3 gT_3 ++ (wX4 hP1 aP1 yP1 gP1 ++ (wX0 (aP1 0) aP1_0 yP1_0 gP1_0)))) [0, 1, 2, 3, 4, 10, 11, 12, 13, 14, 15, 16, 17, 18, 19, 20, 21, 22, 23, 24, 25, 26, 27, 28, 29, 30, 31, 32, 33, 34, 35, 36, 37, 38] (by decide) rfl) (free_of (wC := wX5 hT aT yT gT ++ (wX8 (aT 3) aT_3 yT_3 gT_3 ++ (wX4 hP1 aP1 yP1 gP1 ++ (wX0 (aP1 0) aP1_0 yP1_0 gP1_0)))) (isC := [0, 1, 2, 3, 4, 10, 11, 12, 13, 14, 15, 16, 17, 18, 19, 20, 21, 22, 23, 24, 25, 26, 27, 28, 29, 30, 31, 32, 33, 34, 35, 36, 37, 38]) X rfl) hl.1 rfl rfl (Nat.le_of_ble_eq_true rfl) dX5_readPlan_171 ⟨Nat.le_of_ble_eq_true rfl, Nat.le_of_ble_eq_true rfl⟩ (fun t H1 locs1 ht hB hk hS => ?_)
  have X : Hx D (tX5 yT ++ (tTP yT_0 ++ (tX7 yT_1 ++ (tX6 yT_1_1 ++ (tX2 yT_2 ++ (tX8 yT_3 ++ (tX4 yP1 ++ (tX0 yP1_0)))))))) A s H1 locs1 (wX5 hT aT yT q_7.2.1 ++ (wTP (aT 0) aT_0 yT_0 gT_0 ++ (wX7 (aT 1) (va_up aT_1 0 (aT 0)) yT_1 gT_1 ++ (wX6 ((va_up aT_1 0 (aT 0)) 1) aT_1_1 yT_1_1 gT_1_1 ++ (wX2 (aT 2) (va_up aT_2 0 (aT 0)) yT_2 gT_2 ++ (wX8 (aT 3) aT_3 yT_3 q_7.2.2.1 ++ (wX4 hP1 aP1 yP1 gP1 ++ (wX0 (aP1 0) aP1_0 yP1_0 q_7.2.2.2)))))))) := Hx_after (isC := [0, 1, 2, 3, 4, 10, 11, 12, 13, 14, 15, 16, 17, 18, 19, 20, 21, 22, 23, 24, 25, 26, 27, 28, 29, 30, 31, 32, 33, 34, 35, 36, 37, 38]) (isR := [5, 6, 7, 8, 9]) (pm := [5, 6, 7, 8, 9, 0, 1, 2, 3, 4, 10, 11, 12, 13, 14, 15, 16, 17, 18, 19, 20, 21, 22, 23, 24, 25, 26, 27, 28, 29, 30, 31, 32, 33, 34, 35, 36, 37, 38]) (wr := wTP (aT 0) aT_0 yT_0 gT_0 ++ (wX7 (aT 1) (va_up aT_1 0 (aT 0)) yT_1 gT_1 ++ (wX6 ((va_up aT_1 0 (aT 0)) 1) aT_1_1 yT_1_1 gT_1_1 ++ (wX2 (aT 2) (va_up aT_2 0 (aT 0)) yT_2 gT_2)))) X ⟨rfl, rfl, by decide, by decide, rfl, by decide⟩ ht hB hk hS
  clear hk hS ht hB
  generalize H1 = H at X ⊢
  generalize locs1 = locs at X ⊢
  have hq := Option.some.inj hF
  subst hq
  exact rt_i C X dX5_readPlan_174
set_option maxHeartbeats 4000000 in
set_option maxRecDepth 100000 in
theorem k_X5_readPlan_133 (l : Launch) (D : Dx) (hT : Nat) (aT : Nat → Nat) (yT : Nat → ClassId) (aT_0 : Nat → Nat) (yT_0 : Nat → ClassId) (aT_1 : Nat → Nat) (yT_1 : Nat → ClassId) (aT_1_1 : Nat → Nat) (yT_1_1 : Nat → ClassId) (aT_2 : Nat → Nat) (yT_2 : Nat → ClassId) (aT_3 : Nat → Nat) (yT_3 : Nat → ClassId) (hP1 : Nat) (aP1 : Nat → Nat) (yP1 : Nat → ClassId) (aP1_0 : Nat → Nat) (yP1_0 : Nat → ClassId) (n : Nat) (rec : (Gs → Gs → Gs → Gs → Gs → Gs → Gs → Gs → Int32 → Int32 → Option (Int32 × Gs × Gs × Gs × Gs × Gs × Gs))) (IH : SH_X5_readPlan l D hT aT yT aT_0 yT_0 aT_1 yT_1 aT_1_1 yT_1_1 aT_2 yT_2 aT_3 yT_3 hP1 aP1 yP1 aP1_0 yP1_0 rec) : S_X5_readPlan_133 l D hT aT yT aT_0 yT_0 aT_1 yT_1 aT_1_1 yT_1_1 aT_2 yT_2 aT_3 yT_3 hP1 aP1 yP1 aP1_0 yP1_0 (b_X5_readPlan_133 n hP1 aP1 rec) := by
  intro p e s m args below meth c H locs A ls gT gT_0 gT_1 gT_1_1 gT_2 gT_3 gP1 gP1_0 v3 q C X hl hF
  obtain ⟨hx, hb, hr, hml, hown, hts, hlk⟩ := id C
  unfold b_X5_readPlan_133 at hF
  refine lv_iload_n hx hb dX5_readPlan_133 rfl (lv_at hl 2 rfl) ?_
  refine lv_if_ne (tgt := 150) hx hb dX5_readPlan_134 (by decide) (fun c => ?_) (fun c => ?_)
  · replace hF := iF c hF
    refine lv_aload_n hx hb dX5_readPlan_150 rfl (lv_at hl 0 rfl) ?_
    refine lv_aload_n hx hb dX5_readPlan_151 rfl (lv_at hl 0 rfl) ?_
    refine va_get (D := D.1) (ci := 5) (v := .int (gI gT 16)) (C := RX5) (T := TX5) (N := 18) hx hb hts wi_X5 hown X.1 X.2.1 0 rfl rfl 16 (by decide) (hts _ q3_67) (fun _ h9 => h9) (fl_get (by decide)) dX5_readPlan_152 ?_
    refine lv_iconst (v := (-1 : Int32)) hx hb dX5_readPlan_155 (by decide) ?_
    refine lv_icmp_ne (tgt := 170) hx hb dX5_readPlan_156 (by decide) (fun c => ?_) (fun c => ?_)
    · replace hF := iF c hF
      refine lv_iconst (v := (-1 : Int32)) hx hb dX5_readPlan_170 (by decide) ?_
      exact (k_X5_readPlan_171 l D hT aT yT aT_0 yT_0 aT_1 yT_1 aT_1_1 yT_1_1 aT_2 yT_2 aT_3 yT_3 hP1 aP1 yP1 aP1_0 yP1_0 n rec IH) C X (lv_sub hl [] rfl) hF
    · replace hF := iT c hF
      refine lv_aload_n hx hb dX5_readPlan_159 rfl (lv_at hl 0 rfl) ?_
      refine va_get (D := D.1) (ci := 5) (v := .ref (aT 2)) (C := RX5) (T := TX5) (N := 18) hx hb hts wi_X5 hown X.1 X.2.1 0 rfl rfl 2 (by decide) (hts _ q3_53) (fun _ h9 => h9) (fl_get (by decide)) dX5_readPlan_160 ?_
      refine lv_aload_n hx hb dX5_readPlan_163 rfl (lv_at hl 1 rfl) ?_
      obtain ⟨q_9, hc_10, hF⟩ := bnd_some hF
      refine cV_i (As := [.ref hP1]) (rest := [.ref hT]) C X (c_X2_firstFault l D (aT 2) (va_up aT_2 0 (aT 0)) yT_2 aT_0 yT_0 hP1 aP1 yP1 aP1_0 yP1_0 n gT_2 gT_0 gP1 gP1_0 q_9 hc_10 _) (cwV 1 hts (good_V q4_176 q4_177 q4_178 q1_13 q4_179) rfl rfl rfl (by decide +kernel) ⟨Nat.le_of_ble_eq_true rfl, Nat.le_of_ble_eq_true rfl⟩) (va_recv X.1 X.2.1 (ci := 2) (q0 := 9) rfl rfl) (X.1.sub (tys' := tX2 yT_2 ++ (tTP yT_0 ++ (tX4 yP1 ++ (tX0 yP1_0)))) [4, 7, 8, 9, 10, 11, 12, 13, 14, 15, 16, 17, 18, 19, 20, 21, 22, 23, 24, 25, 26, 27, 28, 29, 30, 31] rfl) (X.2.1.sub (ws' := wX2 (aT 2) (va_up aT_2 0 (aT 0)) yT_2 gT_2 ++ (wTP (aT 0) aT_0 yT_0 gT_0 ++ (wX4 hP1 aP1 yP1 gP1 ++ (wX0 (aP1 0) aP1_0 yP1_0 gP1_0)))) [9, 5, 12, 13, 14, 15, 16, 17, 18, 19, 20, 21, 22, 23, 24, 25, 26, 27, 28, 29, 30, 31, 32, 33, 34, 35, 36, 37, 38] rfl) (X.2.2.1.sub (ws' := wX2 (aT 2) (va_up aT_2 0 (aT 0)) yT_2 gT_2 ++ (wTP (aT 0) aT_0 yT_0 gT_0 ++ (wX4 hP1 aP1 yP1 gP1 ++ (wX0 (aP1 0) aP1_0 yP1_0 gP1_0)))) [9, 5, 12, 13, 14, 15, 16, 17, 18, 19, 20, 21, 22, 23, 24, 25, 26, 27, 28, 29, 30, 31, 32, 33, 34, 35, 36, 37, 38] (by decide) rfl) (free_of (wC := wX2 (aT 2) (va_up aT_2 0 (aT 0)) yT_2 gT_2 ++ (wTP (aT 0) aT_0 yT_0 gT_0 ++ (wX4 hP1 aP1 yP1 gP1 ++ (wX0 (aP1 0) aP1_0 yP1_0 gP1_0)))) (isC := [9, 5, 12, 13, 14, 15, 16, 17, 18, 19, 20, 21, 22, 23, 24, 25, 26, 27, 28, 29, 30, 31, 32, 33, 34, 35, 36, 37, 38]) X rfl) hl.1 rfl rfl (Nat.le_of_ble_eq_true rfl) dX5_readPlan_164 ⟨Nat.le_of_ble_eq_true rfl, Nat.le_of_ble_eq_true rfl⟩ (fun t H1 locs1 ht hB hk hS => ?_)
      have X : Hx D (tX5 yT ++ (tTP yT_0 ++ (tX7 yT_1 ++ (tX6 yT_1_1 ++ (tX2 yT_2 ++ (tX8 yT_3 ++ (tX4 yP1 ++ (tX0 yP1_0)))))))) A s H1 locs1 (wX5 hT aT yT gT ++ (wTP (aT 0) aT_0 yT_0 gT_0 ++ (wX7 (aT 1) (va_up aT_1 0 (aT 0)) yT_1 gT_1 ++ (wX6 ((va_up aT_1 0 (aT 0)) 1) aT_1_1 yT_1_1 gT_1_1 ++ (wX2 (aT 2) (va_up aT_2 0 (aT 0)) yT_2 q_9.2.1 ++ (wX8 (aT 3) aT_3 yT_3 gT_3 ++ (wX4 hP1 aP1 yP1 gP1 ++ (wX0 (aP1 0) aP1_0 yP1_0 q_9.2.2)))))))) := Hx_after (isC := [9, 5, 12, 13, 14, 15, 16, 17, 18, 19, 20, 21, 22, 23, 24, 25, 26, 27, 28, 29, 30, 31, 32, 33, 34, 35, 36, 37, 38]) (isR := [0, 1, 2, 3, 4, 6, 7, 8, 10, 11]) (pm := [0, 1, 2, 3, 4, 11, 5, 6, 7, 10, 8, 9, 12, 13, 14, 15, 16, 17, 18, 19, 20, 21, 22, 23, 24, 25, 26, 27, 28, 29, 30, 31, 32, 33, 34, 35, 36, 37, 38]) (wr := wX5 hT aT yT gT ++ (wX7 (aT 1) (va_up aT_1 0 (aT 0)) yT_1 gT_1 ++ (wX6 ((va_up aT_1 0 (aT 0)) 1) aT_1_1 yT_1_1 gT_1_1 ++ (wX8 (aT 3) aT_3 yT_3 gT_3)))) X ⟨rfl, rfl, by decide, by decide, rfl, by decide⟩ ht hB hk hS
      clear hk hS ht hB
      generalize H1 = H at X ⊢
      generalize locs1 = locs at X ⊢
      refine lv_goto (tgt := 171) hx hb dX5_readPlan_167 (by decide) ?_
      exact (k_X5_readPlan_171 l D hT aT yT aT_0 yT_0 aT_1 yT_1 aT_1_1 yT_1_1 aT_2 yT_2 aT_3 yT_3 hP1 aP1 yP1 aP1_0 yP1_0 n rec IH) C X (lv_sub hl [] rfl) hF
  · replace hF := iT c hF
    refine lv_aload_n hx hb dX5_readPlan_137 rfl (lv_at hl 0 rfl) ?_
    refine lv_iconst (v := (1 : Int32)) hx hb dX5_readPlan_138 (by decide) ?_
    refine lv_aload_n hx hb dX5_readPlan_139 rfl (lv_at hl 0 rfl) ?_
    refine va_get (D := D.1) (ci := 5) (v := .ref (aT 1)) (C := RX5) (T := TX5) (N := 18) hx hb hts wi_X5 hown X.1 X.2.1 0 rfl rfl 1 (by decide) (hts _ q3_52) (fun _ h9 => h9) (fl_get (by decide)) dX5_readPlan_140 ?_
    refine va_getN (D := D.1) (ci := 7) (v := .int (gI gT_1 5)) (C := RX7) (T := TX7) (N := 12) hx hb hts wi_X7 hown X.1 X.2.1 6 rfl rfl 5 (by decide) (X.2.2.2.2.2.1.use q3_2 rfl) (fun _ h9 => h9) (fl_get (by decide)) dX5_readPlan_143 ?_
    obtain ⟨q_11, hc_12, hF⟩ := bnd_some hF
    refine cV_i (As := [.int (1 : Int32), .int (gI gT_1 5)]) (rest := []) C X (c_X5_refuse l D hT aT yT gT (1 : Int32) (gI gT_1 5) q_11 hc_12 _) (cwV 2 hts (good_V q4_172 q4_174 q0_35 q1_10 q4_175) rfl rfl rfl (by decide +kernel) ⟨Nat.le_of_ble_eq_true rfl, Nat.le_of_ble_eq_true rfl⟩) (va_recv X.1 X.2.1 (ci := 5) (q0 := 0) rfl rfl) (X.1.sub (tys' := tX5 yT) [0, 1, 2, 3] rfl) (X.2.1.sub (ws' := wX5 hT aT yT gT) [0, 1, 2, 3, 4] rfl) (X.2.2.1.sub (ws' := wX5 hT aT yT gT) [0, 1, 2, 3, 4] (by decide) rfl) (free_of (wC := wX5 hT aT yT gT) (isC := [0, 1, 2, 3, 4]) X rfl) hl.1 rfl rfl (Nat.le_of_ble_eq_true rfl) dX5_readPlan_146 ⟨Nat.le_of_ble_eq_true rfl, Nat.le_of_ble_eq_true rfl⟩ (fun t H1 locs1 ht hB hk hS => ?_)
    have X : Hx D (tX5 yT ++ (tTP yT_0 ++ (tX7 yT_1 ++ (tX6 yT_1_1 ++ (tX2 yT_2 ++ (tX8 yT_3 ++ (tX4 yP1 ++ (tX0 yP1_0)))))))) A s H1 locs1 (wX5 hT aT yT q_11.2 ++ (wTP (aT 0) aT_0 yT_0 gT_0 ++ (wX7 (aT 1) (va_up aT_1 0 (aT 0)) yT_1 gT_1 ++ (wX6 ((va_up aT_1 0 (aT 0)) 1) aT_1_1 yT_1_1 gT_1_1 ++ (wX2 (aT 2) (va_up aT_2 0 (aT 0)) yT_2 gT_2 ++ (wX8 (aT 3) aT_3 yT_3 gT_3 ++ (wX4 hP1 aP1 yP1 gP1 ++ (wX0 (aP1 0) aP1_0 yP1_0 gP1_0)))))))) := Hx_after (isC := [0, 1, 2, 3, 4]) (isR := [5, 6, 7, 8, 9, 10, 11, 12, 13, 14, 15, 16, 17, 18, 19, 20, 21, 22, 23, 24, 25, 26, 27, 28, 29, 30, 31, 32, 33, 34, 35, 36, 37, 38]) (pm := [34, 35, 36, 37, 38, 0, 1, 2, 3, 4, 5, 6, 7, 8, 9, 10, 11, 12, 13, 14, 15, 16, 17, 18, 19, 20, 21, 22, 23, 24, 25, 26, 27, 28, 29, 30, 31, 32, 33]) (wr := wTP (aT 0) aT_0 yT_0 gT_0 ++ (wX7 (aT 1) (va_up aT_1 0 (aT 0)) yT_1 gT_1 ++ (wX6 ((va_up aT_1 0 (aT 0)) 1) aT_1_1 yT_1_1 gT_1_1 ++ (wX2 (aT 2) (va_up aT_2 0 (aT 0)) yT_2 gT_2 ++ (wX8 (aT 3) aT_3 yT_3 gT_3 ++ (wX4 hP1 aP1 yP1 gP1 ++ (wX0 (aP1 0) aP1_0 yP1_0 gP1_0))))))) X ⟨rfl, rfl, by decide, by decide, rfl, by decide⟩ ht hB hk hS
    clear hk hS ht hB
    generalize H1 = H at X ⊢
    generalize locs1 = locs at X ⊢
    have hq := Option.some.inj hF
    subst hq
    exact rt_i C X dX5_readPlan_149
set_option maxHeartbeats 4000000 in
set_option maxRecDepth 100000 in
theorem k_X5_readPlan_127 (l : Launch) (D : Dx) (hT : Nat) (aT : Nat → Nat) (yT : Nat → ClassId) (aT_0 : Nat → Nat) (yT_0 : Nat → ClassId) (aT_1 : Nat → Nat) (yT_1 : Nat → ClassId) (aT_1_1 : Nat → Nat) (yT_1_1 : Nat → ClassId) (aT_2 : Nat → Nat) (yT_2 : Nat → ClassId) (aT_3 : Nat → Nat) (yT_3 : Nat → ClassId) (hP1 : Nat) (aP1 : Nat → Nat) (yP1 : Nat → ClassId) (aP1_0 : Nat → Nat) (yP1_0 : Nat → ClassId) (n : Nat) (rec : (Gs → Gs → Gs → Gs → Gs → Gs → Gs → Gs → Int32 → Int32 → Option (Int32 × Gs × Gs × Gs × Gs × Gs × Gs))) (IH : SH_X5_readPlan l D hT aT yT aT_0 yT_0 aT_1 yT_1 aT_1_1 yT_1_1 aT_2 yT_2 aT_3 yT_3 hP1 aP1 yP1 aP1_0 yP1_0 rec) : S_X5_readPlan_127 l D hT aT yT aT_0 yT_0 aT_1 yT_1 aT_1_1 yT_1_1 aT_2 yT_2 aT_3 yT_3 hP1 aP1 yP1 aP1_0 yP1_0 (b_X5_readPlan_127 n hP1 aP1 rec) := by
  intro p e s m args below meth c H locs A ls gT gT_0 gT_1 gT_1_1 gT_2 gT_3 gP1 gP1_0 v3 v4 q C X hl hF
  obtain ⟨hx, hb, hr, hml, hown, hts, hlk⟩ := id C
  unfold b_X5_readPlan_127 at hF
  refine lv_iinc (v := v4 + (1 : Int32)) (lv' := [(4, .int (v4 + (1 : Int32))), (0, .ref hT), (2, .ref hP1), (3, .int v3)]) hx hb dX5_readPlan_127 hl (k := 3) rfl rfl (by decide) rfl (fun ls hl => ?_)
  refine lv_goto (tgt := 26) hx hb dX5_readPlan_130 (by decide) ?_
  exact IH C X (lv_sub hl [1, 2, 3, 0] rfl) hF
set_option maxHeartbeats 4000000 in
set_option maxRecDepth 100000 in
theorem k_X5_readPlan_102 (l : Launch) (D : Dx) (hT : Nat) (aT : Nat → Nat) (yT : Nat → ClassId) (aT_0 : Nat → Nat) (yT_0 : Nat → ClassId) (aT_1 : Nat → Nat) (yT_1 : Nat → ClassId) (aT_1_1 : Nat → Nat) (yT_1_1 : Nat → ClassId) (aT_2 : Nat → Nat) (yT_2 : Nat → ClassId) (aT_3 : Nat → Nat) (yT_3 : Nat → ClassId) (hP1 : Nat) (aP1 : Nat → Nat) (yP1 : Nat → ClassId) (aP1_0 : Nat → Nat) (yP1_0 : Nat → ClassId) (n : Nat) (rec : (Gs → Gs → Gs → Gs → Gs → Gs → Gs → Gs → Int32 → Int32 → Option (Int32 × Gs × Gs × Gs × Gs × Gs × Gs))) (IH : SH_X5_readPlan l D hT aT yT aT_0 yT_0 aT_1 yT_1 aT_1_1 yT_1_1 aT_2 yT_2 aT_3 yT_3 hP1 aP1 yP1 aP1_0 yP1_0 rec) : S_X5_readPlan_102 l D hT aT yT aT_0 yT_0 aT_1 yT_1 aT_1_1 yT_1_1 aT_2 yT_2 aT_3 yT_3 hP1 aP1 yP1 aP1_0 yP1_0 (b_X5_readPlan_102 n hP1 aP1 rec) := by
  intro p e s m args below meth c H locs A ls gT gT_0 gT_1 gT_1_1 gT_2 gT_3 gP1 gP1_0 v4 s0 q C X hl hF
  obtain ⟨hx, hb, hr, hml, hown, hts, hlk⟩ := id C
  unfold b_X5_readPlan_102 at hF
  obtain ⟨q_13, hc_14, hF⟩ := bnd_some hF
  refine cV_i (As := [.int s0]) (rest := []) C X (c_X5_readThing l D hT aT yT aT_0 yT_0 (va_up aT_1 0 (aT 0)) yT_1 aT_1_1 yT_1_1 hP1 aP1 yP1 (aP1 0) aP1_0 yP1_0 n gT gT_0 gT_1 gT_1_1 gP1 gP1_0 s0 q_13 hc_14 _) (cwV 1 hts (good_V q4_57 q4_59 q0_11 q1_10 q4_60) rfl rfl rfl (by decide +kernel) ⟨Nat.le_of_ble_eq_true rfl, Nat.le_of_ble_eq_true rfl⟩) (va_recv X.1 X.2.1 (ci := 5) (q0 := 0) rfl rfl) (X.1.sub (tys' := tX5 yT ++ (tTP yT_0 ++ (tX7 yT_1 ++ (tX6 yT_1_1 ++ (tX4 yP1 ++ (tX0 yP1_0)))))) [0, 1, 2, 3, 4, 5, 7, 8, 9, 10, 11, 12, 13, 14, 15, 16, 17, 18, 19, 20, 21, 22, 23, 24, 25, 26, 27, 28, 29, 30, 31] rfl) (X.2.1.sub (ws' := wX5 hT aT yT gT ++ (wTP (aT 0) aT_0 yT_0 gT_0 ++ (wX7 (aT 1) (va_up aT_1 0 (aT 0)) yT_1 gT_1 ++ (wX6 ((va_up aT_1 0 (aT 0)) 1) aT_1_1 yT_1_1 gT_1_1 ++ (wX4 hP1 aP1 yP1 gP1 ++ (wX0 (aP1 0) aP1_0 yP1_0 gP1_0)))))) [0, 1, 2, 3, 4, 5, 6, 7, 8, 12, 13, 14, 15, 16, 17, 18, 19, 20, 21, 22, 23, 24, 25, 26, 27, 28, 29, 30, 31, 32, 33, 34, 35, 36, 37, 38] rfl) (X.2.2.1.sub (ws' := wX5 hT aT yT gT ++ (wTP (aT 0) aT_0 yT_0 gT_0 ++ (wX7 (aT 1) (va_up aT_1 0 (aT 0)) yT_1 gT_1 ++ (wX6 ((va_up aT_1 0 (aT 0)) 1) aT_1_1 yT_1_1 gT_1_1 ++ (wX4 hP1 aP1 yP1 gP1 ++ (wX0 (aP1 0) aP1_0 yP1_0 gP1_0)))))) [0, 1, 2, 3, 4, 5, 6, 7, 8, 12, 13, 14, 15, 16, 17, 18, 19, 20, 21, 22, 23, 24, 25, 26, 27, 28, 29, 30, 31, 32, 33, 34, 35, 36, 37, 38] (by decide) rfl) (free_of (wC := wX5 hT aT yT gT ++ (wTP (aT 0) aT_0 yT_0 gT_0 ++ (wX7 (aT 1) (va_up aT_1 0 (aT 0)) yT_1 gT_1 ++ (wX6 ((va_up aT_1 0 (aT 0)) 1) aT_1_1 yT_1_1 gT_1_1 ++ (wX4 hP1 aP1 yP1 gP1 ++ (wX0 (aP1 0) aP1_0 yP1_0 gP1_0)))))) (isC := [0, 1, 2, 3, 4, 5, 6, 7, 8, 12, 13, 14, 15, 16, 17, 18, 19, 20, 21, 22, 23, 24, 25, 26, 27, 28, 29, 30, 31, 32, 33, 34, 35, 36, 37, 38]) X rfl) hl.1 rfl rfl (Nat.le_of_ble_eq_true rfl) dX5_readPlan_102 ⟨Nat.le_of_ble_eq_true rfl, Nat.le_of_ble_eq_true rfl⟩ (fun t H1 locs1 ht hB hk hS => ?_)
  have X : Hx D (tX5 yT ++ (tTP yT_0 ++ (tX7 yT_1 ++ (tX6 yT_1_1 ++ (tX2 yT_2 ++ (tX8 yT_3 ++ (tX4 yP1 ++ (tX0 yP1_0)))))))) A s H1 locs1 (wX5 hT aT yT q_13.2.1 ++ (wTP (aT 0) aT_0 yT_0 gT_0 ++ (wX7 (aT 1) (va_up aT_1 0 (aT 0)) yT_1 q_13.2.2.1 ++ (wX6 ((va_up aT_1 0 (aT 0)) 1) aT_1_1 yT_1_1 gT_1_1 ++ (wX2 (aT 2) (va_up aT_2 0 (aT 0)) yT_2 gT_2 ++ (wX8 (aT 3) aT_3 yT_3 gT_3 ++ (wX4 hP1 aP1 yP1 q_13.2.2.2.1 ++ (wX0 (aP1 0) aP1_0 yP1_0 q_13.2.2.2.2)))))))) := Hx_after (isC := [0, 1, 2, 3, 4, 5, 6, 7, 8, 12, 13, 14, 15, 16, 17, 18, 19, 20, 21, 22, 23, 24, 25, 26, 27, 28, 29, 30, 31, 32, 33, 34, 35, 36, 37, 38]) (isR := [9, 10, 11]) (pm := [3, 4, 5, 6, 7, 8, 9, 10, 11, 0, 1, 2, 12, 13, 14, 15, 16, 17, 18, 19, 20, 21, 22, 23, 24, 25, 26, 27, 28, 29, 30, 31, 32, 33, 34, 35, 36, 37, 38]) (wr := wX2 (aT 2) (va_up aT_2 0 (aT 0)) yT_2 gT_2 ++ (wX8 (aT 3) aT_3 yT_3 gT_3)) X ⟨rfl, rfl, by decide, by decide, rfl, by decide⟩ ht hB hk hS
  clear hk hS ht hB
  generalize H1 = H at X ⊢
  generalize locs1 = locs at X ⊢
  refine lv_istore_n (lv' := [(3, .int q_13.1), (0, .ref hT), (2, .ref hP1), (4, .int v4)]) hx hb dX5_readPlan_105 rfl hl (by decide) rfl (fun ls hl => ?_)
  refine lv_goto (tgt := 127) hx hb dX5_readPlan_106 (by decide) ?_
  exact (k_X5_readPlan_127 l D hT aT yT aT_0 yT_0 aT_1 yT_1 aT_1_1 yT_1_1 aT_2 yT_2 aT_3 yT_3 hP1 aP1 yP1 aP1_0 yP1_0 n rec IH) C X (lv_sub hl [1, 2, 0, 3] rfl) hF
set_option maxHeartbeats 4000000 in
set_option maxRecDepth 100000 in
theorem k_X5_readPlan_84 (l : Launch) (D : Dx) (hT : Nat) (aT : Nat → Nat) (yT : Nat → ClassId) (aT_0 : Nat → Nat) (yT_0 : Nat → ClassId) (aT_1 : Nat → Nat) (yT_1 : Nat → ClassId) (aT_1_1 : Nat → Nat) (yT_1_1 : Nat → ClassId) (aT_2 : Nat → Nat) (yT_2 : Nat → ClassId) (aT_3 : Nat → Nat) (yT_3 : Nat → ClassId) (hP1 : Nat) (aP1 : Nat → Nat) (yP1 : Nat → ClassId) (aP1_0 : Nat → Nat) (yP1_0 : Nat → ClassId) (n : Nat) (rec : (Gs → Gs → Gs → Gs → Gs → Gs → Gs → Gs → Int32 → Int32 → Option (Int32 × Gs × Gs × Gs × Gs × Gs × Gs))) (IH : SH_X5_readPlan l D hT aT yT aT_0 yT_0 aT_1 yT_1 aT_1_1 yT_1_1 aT_2 yT_2 aT_3 yT_3 hP1 aP1 yP1 aP1_0 yP1_0 rec) : S_X5_readPlan_84 l D hT aT yT aT_0 yT_0 aT_1 yT_1 aT_1_1 yT_1_1 aT_2 yT_2 aT_3 yT_3 hP1 aP1 yP1 aP1_0 yP1_0 (b_X5_readPlan_84 n hP1 aP1 rec) := by
  intro p e s m args below meth c H locs A ls gT gT_0 gT_1 gT_1_1 gT_2 gT_3 gP1 gP1_0 v4 q C X hl hF
  obtain ⟨hx, hb, hr, hml, hown, hts, hlk⟩ := id C
  unfold b_X5_readPlan_84 at hF
  refine lv_aload_n hx hb dX5_readPlan_84 rfl (lv_at hl 0 rfl) ?_
  refine lv_aload_n hx hb dX5_readPlan_85 rfl (lv_at hl 0 rfl) ?_
  refine va_get (D := D.1) (ci := 5) (v := .ref (aT 1)) (C := RX5) (T := TX5) (N := 18) hx hb hts wi_X5 hown X.1 X.2.1 0 rfl rfl 1 (by decide) (hts _ q3_52) (fun _ h9 => h9) (fl_get (by decide)) dX5_readPlan_86 ?_
  refine va_getN (D := D.1) (ci := 7) (v := .int (gI gT_1 4)) (C := RX7) (T := TX7) (N := 12) hx hb hts wi_X7 hown X.1 X.2.1 6 rfl rfl 4 (by decide) (X.2.2.2.2.2.1.use q3_0 rfl) (fun _ h9 => h9) (fl_get (by decide)) dX5_readPlan_89 ?_
  refine lv_bipush (v := (10 : Int32)) hx hb dX5_readPlan_92 (by decide) ?_
  refine lv_icmp_ne (tgt := 101) hx hb dX5_readPlan_94 (by decide) (fun c => ?_) (fun c => ?_)
  · replace hF := iF c hF
    refine lv_iconst (v := (0 : Int32)) hx hb dX5_readPlan_101 (by decide) ?_
    exact (k_X5_readPlan_102 l D hT aT yT aT_0 yT_0 aT_1 yT_1 aT_1_1 yT_1_1 aT_2 yT_2 aT_3 yT_3 hP1 aP1 yP1 aP1_0 yP1_0 n rec IH) C X (lv_sub hl [0, 1, 2] rfl) hF
  · replace hF := iT c hF
    refine lv_iconst (v := (1 : Int32)) hx hb dX5_readPlan_97 (by decide) ?_
    refine lv_goto (tgt := 102) hx hb dX5_readPlan_98 (by decide) ?_
    exact (k_X5_readPlan_102 l D hT aT yT aT_0 yT_0 aT_1 yT_1 aT_1_1 yT_1_1 aT_2 yT_2 aT_3 yT_3 hP1 aP1 yP1 aP1_0 yP1_0 n rec IH) C X (lv_sub hl [0, 1, 2] rfl) hF
set_option maxHeartbeats 4000000 in
set_option maxRecDepth 100000 in
theorem k_X5_readPlan_26 (l : Launch) (D : Dx) (hT : Nat) (aT : Nat → Nat) (yT : Nat → ClassId) (aT_0 : Nat → Nat) (yT_0 : Nat → ClassId) (aT_1 : Nat → Nat) (yT_1 : Nat → ClassId) (aT_1_1 : Nat → Nat) (yT_1_1 : Nat → ClassId) (aT_2 : Nat → Nat) (yT_2 : Nat → ClassId) (aT_3 : Nat → Nat) (yT_3 : Nat → ClassId) (hP1 : Nat) (aP1 : Nat → Nat) (yP1 : Nat → ClassId) (aP1_0 : Nat → Nat) (yP1_0 : Nat → ClassId) (n : Nat) (rec : (Gs → Gs → Gs → Gs → Gs → Gs → Gs → Gs → Int32 → Int32 → Option (Int32 × Gs × Gs × Gs × Gs × Gs × Gs))) (IH : SH_X5_readPlan l D hT aT yT aT_0 yT_0 aT_1 yT_1 aT_1_1 yT_1_1 aT_2 yT_2 aT_3 yT_3 hP1 aP1 yP1 aP1_0 yP1_0 rec) : S_X5_readPlan_26 l D hT aT yT aT_0 yT_0 aT_1 yT_1 aT_1_1 yT_1_1 aT_2 yT_2 aT_3 yT_3 hP1 aP1 yP1 aP1_0 yP1_0 (h_X5_readPlan_26 n hP1 aP1 rec) := by
  intro p e s m args below meth c H locs A ls gT gT_0 gT_1 gT_1_1 gT_2 gT_3 gP1 gP1_0 v3 v4 q C X hl hF
  obtain ⟨hx, hb, hr, hml, hown, hts, hlk⟩ := id C
  unfold h_X5_readPlan_26 at hF
  refine lv_iload hx hb dX5_readPlan_26 (lv_at hl 3 rfl) ?_
  refine lv_sipush (v := (3000 : Int32)) hx hb dX5_readPlan_28 (by decide) ?_
  refine lv_icmp_gt (tgt := 133) hx hb dX5_readPlan_31 (by decide) (fun c => ?_) (fun c => ?_)
  · replace hF := iT c hF
    exact (k_X5_readPlan_133 l D hT aT yT aT_0 yT_0 aT_1 yT_1 aT_1_1 yT_1_1 aT_2 yT_2 aT_3 yT_3 hP1 aP1 yP1 aP1_0 yP1_0 n rec IH) C X (lv_sub hl [0, 1, 2] rfl) hF
  · replace hF := iF c hF
    refine lv_iload_n hx hb dX5_readPlan_34 rfl (lv_at hl 2 rfl) ?_
    refine lv_if_eq (tgt := 133) hx hb dX5_readPlan_35 (by decide) (fun c => ?_) (fun c => ?_)
    · replace hF := iT c hF
      exact (k_X5_readPlan_133 l D hT aT yT aT_0 yT_0 aT_1 yT_1 aT_1_1 yT_1_1 aT_2 yT_2 aT_3 yT_3 hP1 aP1 yP1 aP1_0 yP1_0 n rec IH) C X (lv_sub hl [0, 1, 2] rfl) hF
    · replace hF := iF c hF
      refine lv_aload_n hx hb dX5_readPlan_38 rfl (lv_at hl 0 rfl) ?_
      refine va_get (D := D.1) (ci := 5) (v := .ref (aT 1)) (C := RX5) (T := TX5) (N := 18) hx hb hts wi_X5 hown X.1 X.2.1 0 rfl rfl 1 (by decide) (hts _ q3_52) (fun _ h9 => h9) (fl_get (by decide)) dX5_readPlan_39 ?_
      refine va_getN (D := D.1) (ci := 7) (v := .int (gI gT_1 4)) (C := RX7) (T := TX7) (N := 12) hx hb hts wi_X7 hown X.1 X.2.1 6 rfl rfl 4 (by decide) (X.2.2.2.2.2.1.use q3_0 rfl) (fun _ h9 => h9) (fl_get (by decide)) dX5_readPlan_42 ?_
      refine lv_if_eq (tgt := 133) hx hb dX5_readPlan_45 (by decide) (fun c => ?_) (fun c => ?_)
      · replace hF := iT c hF
        exact (k_X5_readPlan_133 l D hT aT yT aT_0 yT_0 aT_1 yT_1 aT_1_1 yT_1_1 aT_2 yT_2 aT_3 yT_3 hP1 aP1 yP1 aP1_0 yP1_0 n rec IH) C X (lv_sub hl [0, 1, 2] rfl) hF
      · replace hF := iF c hF
        refine lv_aload_n hx hb dX5_readPlan_48 rfl (lv_at hl 0 rfl) ?_
        refine va_get (D := D.1) (ci := 5) (v := .ref (aT 1)) (C := RX5) (T := TX5) (N := 18) hx hb hts wi_X5 hown X.1 X.2.1 0 rfl rfl 1 (by decide) (hts _ q3_52) (fun _ h9 => h9) (fl_get (by decide)) dX5_readPlan_49 ?_
        refine va_getN (D := D.1) (ci := 7) (v := .int (gI gT_1 4)) (C := RX7) (T := TX7) (N := 12) hx hb hts wi_X7 hown X.1 X.2.1 6 rfl rfl 4 (by decide) (X.2.2.2.2.2.1.use q3_0 rfl) (fun _ h9 => h9) (fl_get (by decide)) dX5_readPlan_52 ?_
        by_cases c10 : (gI gT_1 4) = (10 : Int32)
        · replace hF := iT c10 hF
          refine lv_tableIn (tgt := 84) (off := 29) hx hb dX5_readPlan_55 (by rw [c10]; decide) (by rw [c10]; decide) (by rw [c10]; rfl) (by decide) ?_
          exact (k_X5_readPlan_84 l D hT aT yT aT_0 yT_0 aT_1 yT_1 aT_1_1 yT_1_1 aT_2 yT_2 aT_3 yT_3 hP1 aP1 yP1 aP1_0 yP1_0 n rec IH) C X (lv_sub hl [0, 1, 3] rfl) hF
        · replace hF := iF c10 hF
          by_cases c11 : (gI gT_1 4) = (11 : Int32)
          · replace hF := iT c11 hF
            refine lv_tableIn (tgt := 84) (off := 29) hx hb dX5_readPlan_55 (by rw [c11]; decide) (by rw [c11]; decide) (by rw [c11]; rfl) (by decide) ?_
            exact (k_X5_readPlan_84 l D hT aT yT aT_0 yT_0 aT_1 yT_1 aT_1_1 yT_1_1 aT_2 yT_2 aT_3 yT_3 hP1 aP1 yP1 aP1_0 yP1_0 n rec IH) C X (lv_sub hl [0, 1, 3] rfl) hF
          · replace hF := iF c11 hF
            by_cases c12 : (gI gT_1 4) = (12 : Int32)
            · replace hF := iT c12 hF
              refine lv_tableIn (tgt := 109) (off := 54) hx hb dX5_readPlan_55 (by rw [c12]; decide) (by rw [c12]; decide) (by rw [c12]; rfl) (by decide) ?_
              refine lv_aload_n hx hb dX5_readPlan_109 rfl (lv_at hl 0 rfl) ?_
              obtain ⟨q_15, hc_16, hF⟩ := bnd_some hF
              refine cV_i (As := []) (rest := []) C X (c_X5_readCam l D hT aT yT aT_0 yT_0 (va_up aT_1 0 (aT 0)) yT_1 aT_1_1 yT_1_1 hP1 aP1 yP1 (aP1 0) aP1_0 yP1_0 n gT gT_0 gT_1 gT_1_1 gP1 gP1_0 q_15 hc_16 _) (cwV 0 hts (good_V q4_164 q4_166 q0_33 q1_10 q4_167) rfl rfl rfl (by decide +kernel) ⟨Nat.le_of_ble_eq_true rfl, Nat.le_of_ble_eq_true rfl⟩) (va_recv X.1 X.2.1 (ci := 5) (q0 := 0) rfl rfl) (X.1.sub (tys' := tX5 yT ++ (tTP yT_0 ++ (tX7 yT_1 ++ (tX6 yT_1_1 ++ (tX4 yP1 ++ (tX0 yP1_0)))))) [0, 1, 2, 3, 4, 5, 7, 8, 9, 10, 11, 12, 13, 14, 15, 16, 17, 18, 19, 20, 21, 22, 23, 24, 25, 26, 27, 28, 29, 30, 31] rfl) (X.2.1.sub (ws' := wX5 hT aT yT gT ++ (wTP (aT 0) aT_0 yT_0 gT_0 ++ (wX7 (aT 1) (va_up aT_1 0 (aT 0)) yT_1 gT_1 ++ (wX6 ((va_up aT_1 0 (aT 0)) 1) aT_1_1 yT_1_1 gT_1_1 ++ (wX4 hP1 aP1 yP1 gP1 ++ (wX0 (aP1 0) aP1_0 yP1_0 gP1_0)))))) [0, 1, 2, 3, 4, 5, 6, 7, 8, 12, 13, 14, 15, 16, 17, 18, 19, 20, 21, 22, 23, 24, 25, 26, 27, 28, 29, 30, 31, 32, 33, 34, 35, 36, 37, 38] rfl) (X.2.2.1.sub (ws' := wX5 hT aT yT gT ++ (wTP (aT 0) aT_0 yT_0 gT_0 ++ (wX7 (aT 1) (va_up aT_1 0 (aT 0)) yT_1 gT_1 ++ (wX6 ((va_up aT_1 0 (aT 0)) 1) aT_1_1 yT_1_1 gT_1_1 ++ (wX4 hP1 aP1 yP1 gP1 ++ (wX0 (aP1 0) aP1_0 yP1_0 gP1_0)))))) [0, 1, 2, 3, 4, 5, 6, 7, 8, 12, 13, 14, 15, 16, 17, 18, 19, 20, 21, 22, 23, 24, 25, 26, 27, 28, 29, 30, 31, 32, 33, 34, 35, 36, 37, 38] (by decide) rfl) (free_of (wC := wX5 hT aT yT gT ++ (wTP (aT 0) aT_0 yT_0 gT_0 ++ (wX7 (aT 1) (va_up aT_1 0 (aT 0)) yT_1 gT_1 ++ (wX6 ((va_up aT_1 0 (aT 0)) 1) aT_1_1 yT_1_1 gT_1_1 ++ (wX4 hP1 aP1 yP1 gP1 ++ (wX0 (aP1 0) aP1_0 yP1_0 gP1_0)))))) (isC := [0, 1, 2, 3, 4, 5, 6, 7, 8, 12, 13, 14, 15, 16, 17, 18, 19, 20, 21, 22, 23, 24, 25, 26, 27, 28, 29, 30, 31, 32, 33, 34, 35, 36, 37, 38]) X rfl) hl.1 rfl rfl (Nat.le_of_ble_eq_true rfl) dX5_readPlan_110 ⟨Nat.le_of_ble_eq_true rfl, Nat.le_of_ble_eq_true rfl⟩ (fun t H1 locs1 ht hB hk hS => ?_)
              have X : Hx D (tX5 yT ++ (tTP yT_0 ++ (tX7 yT_1 ++ (tX6 yT_1_1 ++ (tX2 yT_2 ++ (tX8 yT_3 ++ (tX4 yP1 ++ (tX0 yP1_0)))))))) A s H1 locs1 (wX5 hT aT yT q_15.2.1 ++ (wTP (aT 0) aT_0 yT_0 gT_0 ++ (wX7 (aT 1) (va_up aT_1 0 (aT 0)) yT_1 q_15.2.2.1 ++ (wX6 ((va_up aT_1 0 (aT 0)) 1) aT_1_1 yT_1_1 gT_1_1 ++ (wX2 (aT 2) (va_up aT_2 0 (aT 0)) yT_2 gT_2 ++ (wX8 (aT 3) aT_3 yT_3 gT_3 ++ (wX4 hP1 aP1 yP1 q_15.2.2.2.1 ++ (wX0 (aP1 0) aP1_0 yP1_0 q_15.2.2.2.2)))))))) := Hx_after (isC := [0, 1, 2, 3, 4, 5, 6, 7, 8, 12, 13, 14, 15, 16, 17, 18, 19, 20, 21, 22, 23, 24, 25, 26, 27, 28, 29, 30, 31, 32, 33, 34, 35, 36, 37, 38]) (isR := [9, 10, 11]) (pm := [3, 4, 5, 6, 7, 8, 9, 10, 11, 0, 1, 2, 12, 13, 14, 15, 16, 17, 18, 19, 20, 21, 22, 23, 24, 25, 26, 27, 28, 29, 30, 31, 32, 33, 34, 35, 36, 37, 38]) (wr := wX2 (aT 2) (va_up aT_2 0 (aT 0)) yT_2 gT_2 ++ (wX8 (aT 3) aT_3 yT_3 gT_3)) X ⟨rfl, rfl, by decide, by decide, rfl, by decide⟩ ht hB hk hS
              clear hk hS ht hB
              generalize H1 = H at X ⊢
              generalize locs1 = locs at X ⊢
              refine lv_istore_n (lv' := [(3, .int q_15.1), (0, .ref hT), (2, .ref hP1), (4, .int v4)]) hx hb dX5_readPlan_113 rfl hl (by decide) rfl (fun ls hl => ?_)
              refine lv_goto (tgt := 127) hx hb dX5_readPlan_114 (by decide) ?_
              exact (k_X5_readPlan_127 l D hT aT yT aT_0 yT_0 aT_1 yT_1 aT_1_1 yT_1_1 aT_2 yT_2 aT_3 yT_3 hP1 aP1 yP1 aP1_0 yP1_0 n rec IH) C X (lv_sub hl [1, 2, 0, 3] rfl) hF
            · replace hF := iF c12 hF
              by_cases c13 : (gI gT_1 4) = (13 : Int32)
              · replace hF := iT c13 hF
                refine lv_tableIn (tgt := 117) (off := 62) hx hb dX5_readPlan_55 (by rw [c13]; decide) (by rw [c13]; decide) (by rw [c13]; rfl) (by decide) ?_
                refine lv_aload_n hx hb dX5_readPlan_117 rfl (lv_at hl 0 rfl) ?_
                obtain ⟨q_17, hc_18, hF⟩ := bnd_some hF
                refine cV_i (As := []) (rest := []) C X (c_X5_readBell l D hT aT yT aT_0 yT_0 (va_up aT_1 0 (aT 0)) yT_1 aT_1_1 yT_1_1 hP1 aP1 yP1 (aP1 0) aP1_0 yP1_0 n gT gT_0 gT_1 gT_1_1 gP1 gP1_0 q_17 hc_18 _) (cwV 0 hts (good_V q4_168 q4_170 q0_34 q1_10 q4_171) rfl rfl rfl (by decide +kernel) ⟨Nat.le_of_ble_eq_true rfl, Nat.le_of_ble_eq_true rfl⟩) (va_recv X.1 X.2.1 (ci := 5) (q0 := 0) rfl rfl) (X.1.sub (tys' := tX5 yT ++ (tTP yT_0 ++ (tX7 yT_1 ++ (tX6 yT_1_1 ++ (tX4 yP1 ++ (tX0 yP1_0)))))) [0, 1, 2, 3, 4, 5, 7, 8, 9, 10, 11, 12, 13, 14, 15, 16, 17, 18, 19, 20, 21, 22, 23, 24, 25, 26, 27, 28, 29, 30, 31] rfl) (X.2.1.sub (ws' := wX5 hT aT yT gT ++ (wTP (aT 0) aT_0 yT_0 gT_0 ++ (wX7 (aT 1) (va_up aT_1 0 (aT 0)) yT_1 gT_1 ++ (wX6 ((va_up aT_1 0 (aT 0)) 1) aT_1_1 yT_1_1 gT_1_1 ++ (wX4 hP1 aP1 yP1 gP1 ++ (wX0 (aP1 0) aP1_0 yP1_0 gP1_0)))))) [0, 1, 2, 3, 4, 5, 6, 7, 8, 12, 13, 14, 15, 16, 17, 18, 19, 20, 21, 22, 23, 24, 25, 26, 27, 28, 29, 30, 31, 32, 33, 34, 35, 36, 37, 38] rfl) (X.2.2.1.sub (ws' := wX5 hT aT yT gT ++ (wTP (aT 0) aT_0 yT_0 gT_0 ++ (wX7 (aT 1) (va_up aT_1 0 (aT 0)) yT_1 gT_1 ++ (wX6 ((va_up aT_1 0 (aT 0)) 1) aT_1_1 yT_1_1 gT_1_1 ++ (wX4 hP1 aP1 yP1 gP1 ++ (wX0 (aP1 0) aP1_0 yP1_0 gP1_0)))))) [0, 1, 2, 3, 4, 5, 6, 7, 8, 12, 13, 14, 15, 16, 17, 18, 19, 20, 21, 22, 23, 24, 25, 26, 27, 28, 29, 30, 31, 32, 33, 34, 35, 36, 37, 38] (by decide) rfl) (free_of (wC := wX5 hT aT yT gT ++ (wTP (aT 0) aT_0 yT_0 gT_0 ++ (wX7 (aT 1) (va_up aT_1 0 (aT 0)) yT_1 gT_1 ++ (wX6 ((va_up aT_1 0 (aT 0)) 1) aT_1_1 yT_1_1 gT_1_1 ++ (wX4 hP1 aP1 yP1 gP1 ++ (wX0 (aP1 0) aP1_0 yP1_0 gP1_0)))))) (isC := [0, 1, 2, 3, 4, 5, 6, 7, 8, 12, 13, 14, 15, 16, 17, 18, 19, 20, 21, 22, 23, 24, 25, 26, 27, 28, 29, 30, 31, 32, 33, 34, 35, 36, 37, 38]) X rfl) hl.1 rfl rfl (Nat.le_of_ble_eq_true rfl) dX5_readPlan_118 ⟨Nat.le_of_ble_eq_true rfl, Nat.le_of_ble_eq_true rfl⟩ (fun t H1 locs1 ht hB hk hS => ?_)
                have X : Hx D (tX5 yT ++ (tTP yT_0 ++ (tX7 yT_1 ++ (tX6 yT_1_1 ++ (tX2 yT_2 ++ (tX8 yT_3 ++ (tX4 yP1 ++ (tX0 yP1_0)))))))) A s H1 locs1 (wX5 hT aT yT q_17.2.1 ++ (wTP (aT 0) aT_0 yT_0 gT_0 ++ (wX7 (aT 1) (va_up aT_1 0 (aT 0)) yT_1 q_17.2.2.1 ++ (wX6 ((va_up aT_1 0 (aT 0)) 1) aT_1_1 yT_1_1 gT_1_1 ++ (wX2 (aT 2) (va_up aT_2 0 (aT 0)) yT_2 gT_2 ++ (wX8 (aT 3) aT_3 yT_3 gT_3 ++ (wX4 hP1 aP1 yP1 q_17.2.2.2.1 ++ (wX0 (aP1 0) aP1_0 yP1_0 q_17.2.2.2.2)))))))) := Hx_after (isC := [0, 1, 2, 3, 4, 5, 6, 7, 8, 12, 13, 14, 15, 16, 17, 18, 19, 20, 21, 22, 23, 24, 25, 26, 27, 28, 29, 30, 31, 32, 33, 34, 35, 36, 37, 38]) (isR := [9, 10, 11]) (pm := [3, 4, 5, 6, 7, 8, 9, 10, 11, 0, 1, 2, 12, 13, 14, 15, 16, 17, 18, 19, 20, 21, 22, 23, 24, 25, 26, 27, 28, 29, 30, 31, 32, 33, 34, 35, 36, 37, 38]) (wr := wX2 (aT 2) (va_up aT_2 0 (aT 0)) yT_2 gT_2 ++ (wX8 (aT 3) aT_3 yT_3 gT_3)) X ⟨rfl, rfl, by decide, by decide, rfl, by decide⟩ ht hB hk hS
                clear hk hS ht hB
                generalize H1 = H at X ⊢
                generalize locs1 = locs at X ⊢
                refine lv_istore_n (lv' := [(3, .int q_17.1), (0, .ref hT), (2, .ref hP1), (4, .int v4)]) hx hb dX5_readPlan_121 rfl hl (by decide) rfl (fun ls hl => ?_)
                refine lv_goto (tgt := 127) hx hb dX5_readPlan_122 (by decide) ?_
                exact (k_X5_readPlan_127 l D hT aT yT aT_0 yT_0 aT_1 yT_1 aT_1_1 yT_1_1 aT_2 yT_2 aT_3 yT_3 hP1 aP1 yP1 aP1_0 yP1_0 n rec IH) C X (lv_sub hl [1, 2, 0, 3] rfl) hF
              · replace hF := iF c13 hF
                refine lv_tableOut (tgt := 125) hx hb dX5_readPlan_55 (tbl_out (10) (13) 4 (by decide) ⟨tne c10 (by decide), ⟨tne c11 (by decide), ⟨tne c12 (by decide), ⟨tne c13 (by decide), trivial⟩⟩⟩⟩) (by decide) ?_
                refine lv_iconst (v := (0 : Int32)) hx hb dX5_readPlan_125 (by decide) ?_
                refine lv_istore_n (lv' := [(3, .int (0 : Int32)), (0, .ref hT), (2, .ref hP1), (4, .int v4)]) hx hb dX5_readPlan_126 rfl hl (by decide) rfl (fun ls hl => ?_)
                exact (k_X5_readPlan_127 l D hT aT yT aT_0 yT_0 aT_1 yT_1 aT_1_1 yT_1_1 aT_2 yT_2 aT_3 yT_3 hP1 aP1 yP1 aP1_0 yP1_0 n rec IH) C X (lv_sub hl [1, 2, 0, 3] rfl) hF
theorem kL_X5_readPlan (l : Launch) (D : Dx) (hT : Nat) (aT : Nat → Nat) (yT : Nat → ClassId) (aT_0 : Nat → Nat) (yT_0 : Nat → ClassId) (aT_1 : Nat → Nat) (yT_1 : Nat → ClassId) (aT_1_1 : Nat → Nat) (yT_1_1 : Nat → ClassId) (aT_2 : Nat → Nat) (yT_2 : Nat → ClassId) (aT_3 : Nat → Nat) (yT_3 : Nat → ClassId) (hP1 : Nat) (aP1 : Nat → Nat) (yP1 : Nat → ClassId) (aP1_0 : Nat → Nat) (yP1_0 : Nat → ClassId) (n : Nat) : ∀ k, SH_X5_readPlan l D hT aT yT aT_0 yT_0 aT_1 yT_1 aT_1_1 yT_1_1 aT_2 yT_2 aT_3 yT_3 hP1 aP1 yP1 aP1_0 yP1_0 (L_X5_readPlan n hP1 aP1 k)
  | 0 => fun _ _ _ h => by cases h
  | k + 1 => k_X5_readPlan_26 l D hT aT yT aT_0 yT_0 aT_1 yT_1 aT_1_1 yT_1_1 aT_2 yT_2 aT_3 yT_3 hP1 aP1 yP1 aP1_0 yP1_0 n _ (kL_X5_readPlan l D hT aT yT aT_0 yT_0 aT_1 yT_1 aT_1_1 yT_1_1 aT_2 yT_2 aT_3 yT_3 hP1 aP1 yP1 aP1_0 yP1_0 n k)
set_option maxHeartbeats 4000000 in
set_option maxRecDepth 100000 in
theorem c_X5_readPlan (l : Launch) (D : Dx) (hT : Nat) (aT : Nat → Nat) (yT : Nat → ClassId) (aT_0 : Nat → Nat) (yT_0 : Nat → ClassId) (aT_1 : Nat → Nat) (yT_1 : Nat → ClassId) (aT_1_1 : Nat → Nat) (yT_1_1 : Nat → ClassId) (aT_2 : Nat → Nat) (yT_2 : Nat → ClassId) (aT_3 : Nat → Nat) (yT_3 : Nat → ClassId) (hP1 : Nat) (aP1 : Nat → Nat) (yP1 : Nat → ClassId) (aP1_0 : Nat → Nat) (yP1_0 : Nat → ClassId) (n : Nat) (gT : Gs) (gT_0 : Gs) (gT_1 : Gs) (gT_1_1 : Gs) (gT_2 : Gs) (gT_3 : Gs) (gP1 : Gs) (gP1_0 : Gs) (x0 : Int32) (q : Int32 × Gs × Gs × Gs × Gs × Gs × Gs) (hF : f_X5_readPlan n hP1 aP1 gT gT_0 gT_1 gT_1_1 gT_2 gT_3 gP1 gP1_0 x0 = some q) (sz : Nat) : Met l yX5_readPlan (ws_ yX5_readPlan cX5_readPlan 5 (some .int)) R_X5_readPlan (PC D (tX5 yT ++ (tTP yT_0 ++ (tX7 yT_1 ++ (tX6 yT_1_1 ++ (tX2 yT_2 ++ (tX8 yT_3 ++ (tX4 yP1 ++ (tX0 yP1_0)))))))) [.ref hT, .int x0, .ref hP1] (wX5 hT aT yT gT ++ (wTP (aT 0) aT_0 yT_0 gT_0 ++ (wX7 (aT 1) (va_up aT_1 0 (aT 0)) yT_1 gT_1 ++ (wX6 ((va_up aT_1 0 (aT 0)) 1) aT_1_1 yT_1_1 gT_1_1 ++ (wX2 (aT 2) (va_up aT_2 0 (aT 0)) yT_2 gT_2 ++ (wX8 (aT 3) aT_3 yT_3 gT_3 ++ (wX4 hP1 aP1 yP1 gP1 ++ (wX0 (aP1 0) aP1_0 yP1_0 gP1_0)))))))) sz) (QI D (va_A (wX5 hT aT yT gT ++ (wTP (aT 0) aT_0 yT_0 gT_0 ++ (wX7 (aT 1) (va_up aT_1 0 (aT 0)) yT_1 gT_1 ++ (wX6 ((va_up aT_1 0 (aT 0)) 1) aT_1_1 yT_1_1 gT_1_1 ++ (wX2 (aT 2) (va_up aT_2 0 (aT 0)) yT_2 gT_2 ++ (wX8 (aT 3) aT_3 yT_3 gT_3 ++ (wX4 hP1 aP1 yP1 gP1 ++ (wX0 (aP1 0) aP1_0 yP1_0 gP1_0)))))))) sz) (wX5 hT aT yT q.2.1 ++ (wTP (aT 0) aT_0 yT_0 gT_0 ++ (wX7 (aT 1) (va_up aT_1 0 (aT 0)) yT_1 q.2.2.1 ++ (wX6 ((va_up aT_1 0 (aT 0)) 1) aT_1_1 yT_1_1 gT_1_1 ++ (wX2 (aT 2) (va_up aT_2 0 (aT 0)) yT_2 q.2.2.2.1 ++ (wX8 (aT 3) aT_3 yT_3 q.2.2.2.2.1 ++ (wX4 hP1 aP1 yP1 q.2.2.2.2.2.1 ++ (wX0 (aP1 0) aP1_0 yP1_0 q.2.2.2.2.2.2)))))))) q.1) 0 0 (va_A (wX5 hT aT yT gT ++ (wTP (aT 0) aT_0 yT_0 gT_0 ++ (wX7 (aT 1) (va_up aT_1 0 (aT 0)) yT_1 gT_1 ++ (wX6 ((va_up aT_1 0 (aT 0)) 1) aT_1_1 yT_1_1 gT_1_1 ++ (wX2 (aT 2) (va_up aT_2 0 (aT 0)) yT_2 gT_2 ++ (wX8 (aT 3) aT_3 yT_3 gT_3 ++ (wX4 hP1 aP1 yP1 gP1 ++ (wX0 (aP1 0) aP1_0 yP1_0 gP1_0)))))))) sz) := by
  refine Met.ofW (cc := cX5_readPlan) (maxL := 5) (ret := (some .int)) (by decide) rfl ?_
  intro p e s m args below meth c s₁ B hml hv
  obtain ⟨rfl, hsz, hP, hK, hD, hN⟩ := hv
  subst hsz
  have C : Cx p s m _ meth c cX5_readPlan (some .int) 5 RX5 lw_all := Cx_of B hml
  have X := Hx_start hP hK hD hN
  obtain ⟨hx, hb, hr, -, hown, hts, hlk⟩ := id C
  generalize va_A (wX5 hT aT yT gT ++ (wTP (aT 0) aT_0 yT_0 gT_0 ++ (wX7 (aT 1) (va_up aT_1 0 (aT 0)) yT_1 gT_1 ++ (wX6 ((va_up aT_1 0 (aT 0)) 1) aT_1_1 yT_1_1 gT_1_1 ++ (wX2 (aT 2) (va_up aT_2 0 (aT 0)) yT_2 gT_2 ++ (wX8 (aT 3) aT_3 yT_3 gT_3 ++ (wX4 hP1 aP1 yP1 gP1 ++ (wX0 (aP1 0) aP1_0 yP1_0 gP1_0)))))))) s.heap.size = A at X ⊢
  have hl := lv_entry ([.ref hT, .int x0, .ref hP1]) (n := 5) (Nat.le_of_ble_eq_true rfl)
  rw [lg_entry_eq]
  generalize (lg_sl ([.ref hT, .int x0, .ref hP1]) ++ List.replicate (5 - (lg_sl ([.ref hT, .int x0, .ref hP1])).length) Slot.unset).toArray = ls at hl ⊢
  have hl : lv_has ls 5 [(0, .ref hT), (1, .int x0), (2, .ref hP1)] := hl
  unfold f_X5_readPlan at hF
  refine lv_aload_n hx hb dX5_readPlan_0 rfl (lv_at hl 2 rfl) ?_
  obtain ⟨q_1, hc_2, hF⟩ := bnd_some hF
  refine cV_v (As := []) (rest := []) C X (c_X4_clear l D hP1 aP1 yP1 aP1_0 yP1_0 gP1 gP1_0 q_1 hc_2 _) (cwV 0 hts (good_V q3_111 q3_112 q3_113 q1_7 q3_114) rfl rfl rfl (by decide +kernel) ⟨Nat.le_of_ble_eq_true rfl, Nat.le_of_ble_eq_true rfl⟩) (va_recv X.1 X.2.1 (ci := 4) (q0 := 12) rfl rfl) (X.1.sub (tys' := tX4 yP1 ++ (tX0 yP1_0)) [7, 8, 9, 10, 11, 12, 13, 14, 15, 16, 17, 18, 19, 20, 21, 22, 23, 24, 25, 26, 27, 28, 29, 30, 31] rfl) (X.2.1.sub (ws' := wX4 hP1 aP1 yP1 gP1 ++ (wX0 (aP1 0) aP1_0 yP1_0 gP1_0)) [12, 13, 14, 15, 16, 17, 18, 19, 20, 21, 22, 23, 24, 25, 26, 27, 28, 29, 30, 31, 32, 33, 34, 35, 36, 37, 38] rfl) (X.2.2.1.sub (ws' := wX4 hP1 aP1 yP1 gP1 ++ (wX0 (aP1 0) aP1_0 yP1_0 gP1_0)) [12, 13, 14, 15, 16, 17, 18, 19, 20, 21, 22, 23, 24, 25, 26, 27, 28, 29, 30, 31, 32, 33, 34, 35, 36, 37, 38] (by decide) rfl) (free_of (wC := wX4 hP1 aP1 yP1 gP1 ++ (wX0 (aP1 0) aP1_0 yP1_0 gP1_0)) (isC := [12, 13, 14, 15, 16, 17, 18, 19, 20, 21, 22, 23, 24, 25, 26, 27, 28, 29, 30, 31, 32, 33, 34, 35, 36, 37, 38]) X rfl) hl.1 rfl rfl (Nat.le_of_ble_eq_true rfl) dX5_readPlan_1 ⟨Nat.le_of_ble_eq_true rfl, Nat.le_of_ble_eq_true rfl⟩ (fun t H1 locs1 ht hB hk hS => ?_)
  have X : Hx D (tX5 yT ++ (tTP yT_0 ++ (tX7 yT_1 ++ (tX6 yT_1_1 ++ (tX2 yT_2 ++ (tX8 yT_3 ++ (tX4 yP1 ++ (tX0 yP1_0)))))))) A s H1 locs1 (wX5 hT aT yT gT ++ (wTP (aT 0) aT_0 yT_0 gT_0 ++ (wX7 (aT 1) (va_up aT_1 0 (aT 0)) yT_1 gT_1 ++ (wX6 ((va_up aT_1 0 (aT 0)) 1) aT_1_1 yT_1_1 gT_1_1 ++ (wX2 (aT 2) (va_up aT_2 0 (aT 0)) yT_2 gT_2 ++ (wX8 (aT 3) aT_3 yT_3 gT_3 ++ (wX4 hP1 aP1 yP1 q_1.1 ++ (wX0 (aP1 0) aP1_0 yP1_0 q_1.2)))))))) := Hx_after (isC := [12, 13, 14, 15, 16, 17, 18, 19, 20, 21, 22, 23, 24, 25, 26, 27, 28, 29, 30, 31, 32, 33, 34, 35, 36, 37, 38]) (isR := [0, 1, 2, 3, 4, 5, 6, 7, 8, 9, 10, 11]) (pm := [0, 1, 2, 3, 4, 5, 6, 7, 8, 9, 10, 11, 12, 13, 14, 15, 16, 17, 18, 19, 20, 21, 22, 23, 24, 25, 26, 27, 28, 29, 30, 31, 32, 33, 34, 35, 36, 37, 38]) (wr := wX5 hT aT yT gT ++ (wTP (aT 0) aT_0 yT_0 gT_0 ++ (wX7 (aT 1) (va_up aT_1 0 (aT 0)) yT_1 gT_1 ++ (wX6 ((va_up aT_1 0 (aT 0)) 1) aT_1_1 yT_1_1 gT_1_1 ++ (wX2 (aT 2) (va_up aT_2 0 (aT 0)) yT_2 gT_2 ++ (wX8 (aT 3) aT_3 yT_3 gT_3)))))) X ⟨rfl, rfl, by decide, by decide, rfl, by decide⟩ ht hB hk hS
  clear hk hS ht hB
  generalize H1 = H at X ⊢
  generalize locs1 = locs at X ⊢
  refine lv_aload_n hx hb dX5_readPlan_4 rfl (lv_at hl 0 rfl) ?_
  refine lv_aload_n hx hb dX5_readPlan_5 rfl (lv_at hl 2 rfl) ?_
  refine lv_aload_n hx hb dX5_readPlan_6 rfl (lv_at hl 2 rfl) ?_
  refine va_getN (D := D.1) (ci := 4) (v := .ref (aP1 0)) (C := RX4) (T := TX4) (N := 14) hx hb hts wi_X4 hown X.1 X.2.1 12 rfl rfl 0 (by decide) (X.2.2.2.2.2.1.use q2_68 rfl) (fun _ h9 => h9) (fl_get (by decide)) dX5_readPlan_7 ?_
  obtain ⟨q_3, hc_4, hF⟩ := bnd_some hF
  refine cV_v (As := [.ref hP1, .ref (aP1 0)]) (rest := []) C X (c_X5_begin l D hT aT yT hP1 aP1 yP1 (aP1 0) aP1_0 yP1_0 gT q_1.1 q_1.2 q_3 hc_4 _) (cwV 2 hts (good_V q3_119 q3_121 q0_2 q1_10 q3_122) rfl rfl rfl (by decide +kernel) ⟨Nat.le_of_ble_eq_true rfl, Nat.le_of_ble_eq_true rfl⟩) (va_recv X.1 X.2.1 (ci := 5) (q0 := 0) rfl rfl) (X.1.sub (tys' := tX5 yT ++ (tX4 yP1 ++ (tX0 yP1_0))) [0, 1, 2, 3, 7, 8, 9, 10, 11, 12, 13, 14, 15, 16, 17, 18, 19, 20, 21, 22, 23, 24, 25, 26, 27, 28, 29, 30, 31] rfl) (X.2.1.sub (ws' := wX5 hT aT yT gT ++ (wX4 hP1 aP1 yP1 q_1.1 ++ (wX0 (aP1 0) aP1_0 yP1_0 q_1.2))) [0, 1, 2, 3, 4, 12, 13, 14, 15, 16, 17, 18, 19, 20, 21, 22, 23, 24, 25, 26, 27, 28, 29, 30, 31, 32, 33, 34, 35, 36, 37, 38] rfl) (X.2.2.1.sub (ws' := wX5 hT aT yT gT ++ (wX4 hP1 aP1 yP1 q_1.1 ++ (wX0 (aP1 0) aP1_0 yP1_0 q_1.2))) [0, 1, 2, 3, 4, 12, 13, 14, 15, 16, 17, 18, 19, 20, 21, 22, 23, 24, 25, 26, 27, 28, 29, 30, 31, 32, 33, 34, 35, 36, 37, 38] (by decide) rfl) (free_of (wC := wX5 hT aT yT gT ++ (wX4 hP1 aP1 yP1 q_1.1 ++ (wX0 (aP1 0) aP1_0 yP1_0 q_1.2))) (isC := [0, 1, 2, 3, 4, 12, 13, 14, 15, 16, 17, 18, 19, 20, 21, 22, 23, 24, 25, 26, 27, 28, 29, 30, 31, 32, 33, 34, 35, 36, 37, 38]) X rfl) hl.1 rfl rfl (Nat.le_of_ble_eq_true rfl) dX5_readPlan_10 ⟨Nat.le_of_ble_eq_true rfl, Nat.le_of_ble_eq_true rfl⟩ (fun t H1 locs1 ht hB hk hS => ?_)
  have X : Hx D (tX5 yT ++ (tTP yT_0 ++ (tX7 yT_1 ++ (tX6 yT_1_1 ++ (tX2 yT_2 ++ (tX8 yT_3 ++ (tX4 yP1 ++ (tX0 yP1_0)))))))) A s H1 locs1 (wX5 hT aT yT q_3 ++ (wTP (aT 0) aT_0 yT_0 gT_0 ++ (wX7 (aT 1) (va_up aT_1 0 (aT 0)) yT_1 gT_1 ++ (wX6 ((va_up aT_1 0 (aT 0)) 1) aT_1_1 yT_1_1 gT_1_1 ++ (wX2 (aT 2) (va_up aT_2 0 (aT 0)) yT_2 gT_2 ++ (wX8 (aT 3) aT_3 yT_3 gT_3 ++ (wX4 hP1 aP1 yP1 q_1.1 ++ (wX0 (aP1 0) aP1_0 yP1_0 q_1.2)))))))) := Hx_after (isC := [0, 1, 2, 3, 4, 12, 13, 14, 15, 16, 17, 18, 19, 20, 21, 22, 23, 24, 25, 26, 27, 28, 29, 30, 31, 32, 33, 34, 35, 36, 37, 38]) (isR := [5, 6, 7, 8, 9, 10, 11]) (pm := [7, 8, 9, 10, 11, 0, 1, 2, 3, 4, 5, 6, 12, 13, 14, 15, 16, 17, 18, 19, 20, 21, 22, 23, 24, 25, 26, 27, 28, 29, 30, 31, 32, 33, 34, 35, 36, 37, 38]) (wr := wTP (aT 0) aT_0 yT_0 gT_0 ++ (wX7 (aT 1) (va_up aT_1 0 (aT 0)) yT_1 gT_1 ++ (wX6 ((va_up aT_1 0 (aT 0)) 1) aT_1_1 yT_1_1 gT_1_1 ++ (wX2 (aT 2) (va_up aT_2 0 (aT 0)) yT_2 gT_2 ++ (wX8 (aT 3) aT_3 yT_3 gT_3))))) X ⟨rfl, rfl, by decide, by decide, rfl, by decide⟩ ht hB hk hS
  clear hk hS ht hB
  generalize H1 = H at X ⊢
  generalize locs1 = locs at X ⊢
  refine lv_aload_n hx hb dX5_readPlan_13 rfl (lv_at hl 0 rfl) ?_
  refine va_get (D := D.1) (ci := 5) (v := .ref (aT 1)) (C := RX5) (T := TX5) (N := 18) hx hb hts wi_X5 hown X.1 X.2.1 0 rfl rfl 1 (by decide) (hts _ q3_52) (fun _ h9 => h9) (fl_get (by decide)) dX5_readPlan_14 ?_
  refine lv_iload_n hx hb dX5_readPlan_17 rfl (lv_at hl 1 rfl) ?_
  obtain ⟨q_5, hc_6, hF⟩ := bnd_some hF
  refine cV_v (As := [.int x0]) (rest := []) C X (c_X7_begin l D (aT 1) (va_up aT_1 0 (aT 0)) yT_1 aT_0 yT_0 aT_1_1 yT_1_1 n gT_1 gT_0 gT_1_1 x0 q_5 hc_6 _) (cwV 1 hts (good_V q3_123 q3_124 q3_125 q1_12 q3_126) rfl rfl rfl (by decide +kernel) ⟨Nat.le_of_ble_eq_true rfl, Nat.le_of_ble_eq_true rfl⟩) (va_recv X.1 X.2.1 (ci := 7) (q0 := 6) rfl rfl) (X.1.sub (tys' := tX7 yT_1 ++ (tTP yT_0 ++ (tX6 yT_1_1))) [4, 5] rfl) (X.2.1.sub (ws' := wX7 (aT 1) (va_up aT_1 0 (aT 0)) yT_1 gT_1 ++ (wTP (aT 0) aT_0 yT_0 gT_0 ++ (wX6 ((va_up aT_1 0 (aT 0)) 1) aT_1_1 yT_1_1 gT_1_1))) [6, 5, 7, 8] rfl) (X.2.2.1.sub (ws' := wX7 (aT 1) (va_up aT_1 0 (aT 0)) yT_1 gT_1 ++ (wTP (aT 0) aT_0 yT_0 gT_0 ++ (wX6 ((va_up aT_1 0 (aT 0)) 1) aT_1_1 yT_1_1 gT_1_1))) [6, 5, 7, 8] (by decide) rfl) (free_of (wC := wX7 (aT 1) (va_up aT_1 0 (aT 0)) yT_1 gT_1 ++ (wTP (aT 0) aT_0 yT_0 gT_0 ++ (wX6 ((va_up aT_1 0 (aT 0)) 1) aT_1_1 yT_1_1 gT_1_1))) (isC := [6, 5, 7, 8]) X rfl) hl.1 rfl rfl (Nat.le_of_ble_eq_true rfl) dX5_readPlan_18 ⟨Nat.le_of_ble_eq_true rfl, Nat.le_of_ble_eq_true rfl⟩ (fun t H1 locs1 ht hB hk hS => ?_)
  have X : Hx D (tX5 yT ++ (tTP yT_0 ++ (tX7 yT_1 ++ (tX6 yT_1_1 ++ (tX2 yT_2 ++ (tX8 yT_3 ++ (tX4 yP1 ++ (tX0 yP1_0)))))))) A s H1 locs1 (wX5 hT aT yT q_3 ++ (wTP (aT 0) aT_0 yT_0 gT_0 ++ (wX7 (aT 1) (va_up aT_1 0 (aT 0)) yT_1 q_5 ++ (wX6 ((va_up aT_1 0 (aT 0)) 1) aT_1_1 yT_1_1 gT_1_1 ++ (wX2 (aT 2) (va_up aT_2 0 (aT 0)) yT_2 gT_2 ++ (wX8 (aT 3) aT_3 yT_3 gT_3 ++ (wX4 hP1 aP1 yP1 q_1.1 ++ (wX0 (aP1 0) aP1_0 yP1_0 q_1.2)))))))) := Hx_after (isC := [6, 5, 7, 8]) (isR := [0, 1, 2, 3, 4, 9, 10, 11, 12, 13, 14, 15, 16, 17, 18, 19, 20, 21, 22, 23, 24, 25, 26, 27, 28, 29, 30, 31, 32, 33, 34, 35, 36, 37, 38]) (pm := [0, 1, 2, 3, 4, 36, 35, 37, 38, 5, 6, 7, 8, 9, 10, 11, 12, 13, 14, 15, 16, 17, 18, 19, 20, 21, 22, 23, 24, 25, 26, 27, 28, 29, 30, 31, 32, 33, 34]) (wr := wX5 hT aT yT q_3 ++ (wX2 (aT 2) (va_up aT_2 0 (aT 0)) yT_2 gT_2 ++ (wX8 (aT 3) aT_3 yT_3 gT_3 ++ (wX4 hP1 aP1 yP1 q_1.1 ++ (wX0 (aP1 0) aP1_0 yP1_0 q_1.2))))) X ⟨rfl, rfl, by decide, by decide, rfl, by decide⟩ ht hB hk hS
  clear hk hS ht hB
  generalize H1 = H at X ⊢
  generalize locs1 = locs at X ⊢
  refine lv_iconst (v := (1 : Int32)) hx hb dX5_readPlan_21 (by decide) ?_
  refine lv_istore_n (lv' := [(3, .int (1 : Int32)), (0, .ref hT), (1, .int x0), (2, .ref hP1)]) hx hb dX5_readPlan_22 rfl hl (by decide) rfl (fun ls hl => ?_)
  refine lv_iconst (v := (0 : Int32)) hx hb dX5_readPlan_23 (by decide) ?_
  refine lv_istore (lv' := [(4, .int (0 : Int32)), (3, .int (1 : Int32)), (0, .ref hT), (1, .int x0), (2, .ref hP1)]) hx hb dX5_readPlan_24 hl (by decide) rfl (fun ls hl => ?_)
  exact (kL_X5_readPlan l D hT aT yT aT_0 yT_0 aT_1 yT_1 aT_1_1 yT_1_1 aT_2 yT_2 aT_3 yT_3 hP1 aP1 yP1 aP1_0 yP1_0 n n) C X (lv_sub hl [2, 4, 1, 0] rfl) hF

/-! ### X5_readAsked -/
theorem dX5_readAsked_0 : decode cX5_readAsked 0 = .ok (.aload_n 3, 1) := by decide +kernel
theorem dX5_readAsked_1 : decode cX5_readAsked 1 = .ok (.invokevirtual 129, 3) := by decide +kernel
theorem dX5_readAsked_4 : decode cX5_readAsked 4 = .ok (.aload_n 0, 1) := by decide +kernel
theorem dX5_readAsked_5 : decode cX5_readAsked 5 = .ok (.aload_n 2, 1) := by decide +kernel
theorem dX5_readAsked_6 : decode cX5_readAsked 6 = .ok (.aload_n 3, 1) := by decide +kernel
theorem dX5_readAsked_7 : decode cX5_readAsked 7 = .ok (.invokevirtual 93, 3) := by decide +kernel
theorem dX5_readAsked_10 : decode cX5_readAsked 10 = .ok (.aload_n 0, 1) := by decide +kernel
theorem dX5_readAsked_11 : decode cX5_readAsked 11 = .ok (.getfield 77, 3) := by decide +kernel
theorem dX5_readAsked_14 : decode cX5_readAsked 14 = .ok (.iload_n 1, 1) := by decide +kernel
theorem dX5_readAsked_15 : decode cX5_readAsked 15 = .ok (.invokevirtual 97, 3) := by decide +kernel
theorem dX5_readAsked_18 : decode cX5_readAsked 18 = .ok (.aload_n 0, 1) := by decide +kernel
theorem dX5_readAsked_19 : decode cX5_readAsked 19 = .ok (.iconst (-1), 1) := by decide +kernel
theorem dX5_readAsked_20 : decode cX5_readAsked 20 = .ok (.iconst 0, 1) := by decide +kernel
theorem dX5_readAsked_21 : decode cX5_readAsked 21 = .ok (.bipush 40, 2) := by decide +kernel
theorem dX5_readAsked_23 : decode cX5_readAsked 23 = .ok (.bipush 8, 2) := by decide +kernel
theorem dX5_readAsked_25 : decode cX5_readAsked 25 = .ok (.invokevirtual 132, 3) := by decide +kernel
theorem dX5_readAsked_28 : decode cX5_readAsked 28 = .ok (.ifCond .eq 13, 3) := by decide +kernel
theorem dX5_readAsked_31 : decode cX5_readAsked 31 = .ok (.aload_n 0, 1) := by decide +kernel
theorem dX5_readAsked_32 : decode cX5_readAsked 32 = .ok (.getfield 77, 3) := by decide +kernel
theorem dX5_readAsked_35 : decode cX5_readAsked 35 = .ok (.getfield 100, 3) := by decide +kernel
theorem dX5_readAsked_38 : decode cX5_readAsked 38 = .ok (.ifCond .eq 16, 3) := by decide +kernel
theorem dX5_readAsked_41 : decode cX5_readAsked 41 = .ok (.aload_n 0, 1) := by decide +kernel
theorem dX5_readAsked_42 : decode cX5_readAsked 42 = .ok (.iconst 1, 1) := by decide +kernel
theorem dX5_readAsked_43 : decode cX5_readAsked 43 = .ok (.aload_n 0, 1) := by decide +kernel
theorem dX5_readAsked_44 : decode cX5_readAsked 44 = .ok (.getfield 77, 3) := by decide +kernel
theorem dX5_readAsked_47 : decode cX5_readAsked 47 = .ok (.getfield 114, 3) := by decide +kernel
theorem dX5_readAsked_50 : decode cX5_readAsked 50 = .ok (.invokevirtual 117, 3) := by decide +kernel
theorem dX5_readAsked_53 : decode cX5_readAsked 53 = .ok (.ireturn, 1) := by decide +kernel
theorem dX5_readAsked_54 : decode cX5_readAsked 54 = .ok (.aload_n 0, 1) := by decide +kernel
theorem dX5_readAsked_55 : decode cX5_readAsked 55 = .ok (.aload_n 0, 1) := by decide +kernel
theorem dX5_readAsked_56 : decode cX5_readAsked 56 = .ok (.getfield 51, 3) := by decide +kernel
theorem dX5_readAsked_59 : decode cX5_readAsked 59 = .ok (.iconst (-1), 1) := by decide +kernel
theorem dX5_readAsked_60 : decode cX5_readAsked 60 = .ok (.if_icmp .ne 15, 3) := by decide +kernel
theorem dX5_readAsked_63 : decode cX5_readAsked 63 = .ok (.aload_n 0, 1) := by decide +kernel
theorem dX5_readAsked_64 : decode cX5_readAsked 64 = .ok (.getfield 86, 3) := by decide +kernel
theorem dX5_readAsked_67 : decode cX5_readAsked 67 = .ok (.aload_n 2, 1) := by decide +kernel
theorem dX5_readAsked_68 : decode cX5_readAsked 68 = .ok (.aload_n 3, 1) := by decide +kernel
theorem dX5_readAsked_69 : decode cX5_readAsked 69 = .ok (.invokevirtual 136, 3) := by decide +kernel
theorem dX5_readAsked_72 : decode cX5_readAsked 72 = .ok (.goto 4, 3) := by decide +kernel
theorem dX5_readAsked_75 : decode cX5_readAsked 75 = .ok (.iconst (-1), 1) := by decide +kernel
theorem dX5_readAsked_76 : decode cX5_readAsked 76 = .ok (.invokevirtual 125, 3) := by decide +kernel
theorem dX5_readAsked_79 : decode cX5_readAsked 79 = .ok (.ireturn, 1) := by decide +kernel
abbrev R_X5_readAsked : Room := ({ frames := 8, cells := 0, slots := 0, locals := 202 } : Room)
def b_X5_readAsked_41 (n : Nat) (hP1 : Nat) (hP2 : Nat) (gT : Gs) (gT_0 : Gs) (gT_1 : Gs) (gT_1_1 : Gs) (gT_2 : Gs) (gT_3 : Gs) (gP1 : Gs) (gP2 : Gs) : Option (Int32 × Gs × Gs × Gs × Gs × Gs) :=
  bnd (f_X5_refuse gT (1 : Int32) (gI gT_1 5)) (fun q_9 => some (q_9.1, q_9.2, gT_1, gT_2, gT_3, gP2))
def b_X5_readAsked_76 (n : Nat) (hP1 : Nat) (hP2 : Nat) (gT : Gs) (gT_0 : Gs) (gT_1 : Gs) (gT_1_1 : Gs) (gT_2 : Gs) (gT_3 : Gs) (gP1 : Gs) (gP2 : Gs) (s0 : Int32) : Option (Int32 × Gs × Gs × Gs × Gs × Gs) :=
  bnd (f_X5_settle n hP1 hP2 gT gT_3 gP1 gP2 s0) (fun q_11 => some (q_11.1, q_11.2.1, gT_1, gT_2, q_11.2.2.1, q_11.2.2.2))
def f_X5_readAsked (n : Nat) (hP1 : Nat) (hP2 : Nat) (gT : Gs) (gT_0 : Gs) (gT_1 : Gs) (gT_1_1 : Gs) (gT_2 : Gs) (gT_3 : Gs) (gP1 : Gs) (gP2 : Gs) (x0 : Int32) : Option (Int32 × Gs × Gs × Gs × Gs × Gs) :=
  bnd (f_X0_clear gP2) (fun q_1 => bnd (f_X5_begin hP1 hP2 gT gP1 q_1) (fun q_3 => bnd (f_X7_begin n gT_1 gT_0 gT_1_1 x0) (fun q_5 => bnd (f_X5_readFormula n hP2 q_3 gT_0 q_5 gT_1_1 q_1 (-1 : Int32) (0 : Int32) (40 : Int32) (8 : Int32)) (fun q_7 => if q_7.1 = 0 then (b_X5_readAsked_41 n hP1 hP2 q_7.2.1 gT_0 q_7.2.2.1 gT_1_1 gT_2 gT_3 gP1 q_7.2.2.2) else (if (gI q_7.2.2.1 4) = 0 then (if (gI q_7.2.1 16) = (-1 : Int32) then (bnd (f_X2_firstFaultAsked n gT_2 gT_0 gP1 q_7.2.2.2) (fun q_13 => b_X5_readAsked_76 n hP1 hP2 q_7.2.1 gT_0 q_7.2.2.1 gT_1_1 q_13.2.1 gT_3 gP1 q_13.2.2 q_13.1)) else (b_X5_readAsked_76 n hP1 hP2 q_7.2.1 gT_0 q_7.2.2.1 gT_1_1 gT_2 gT_3 gP1 q_7.2.2.2 (-1 : Int32))) else (b_X5_readAsked_41 n hP1 hP2 q_7.2.1 gT_0 q_7.2.2.1 gT_1_1 gT_2 gT_3 gP1 q_7.2.2.2))))))
def S_X5_readAsked_41 (l : Launch) (D : Dx) (hT : Nat) (aT : Nat → Nat) (yT : Nat → ClassId) (aT_0 : Nat → Nat) (yT_0 : Nat → ClassId) (aT_1 : Nat → Nat) (yT_1 : Nat → ClassId) (aT_1_1 : Nat → Nat) (yT_1_1 : Nat → ClassId) (aT_2 : Nat → Nat) (yT_2 : Nat → ClassId) (aT_3 : Nat → Nat) (yT_3 : Nat → ClassId) (hP1 : Nat) (aP1 : Nat → Nat) (yP1 : Nat → ClassId) (hP2 : Nat) (aP2 : Nat → Nat) (yP2 : Nat → ClassId) (fn : Gs → Gs → Gs → Gs → Gs → Gs → Gs → Gs → Option (Int32 × Gs × Gs × Gs × Gs × Gs)) : Prop :=
  ∀ {p : Program} {e : Env} {s : State} {m : MethodId} {args : Array Value} {below : List Frame} {meth : Method} {c : Code} {H : Heap} {locs : List Loc} {A : Nat → Prop} {ls : Array Slot} {gT : Gs} {gT_0 : Gs} {gT_1 : Gs} {gT_1_1 : Gs} {gT_2 : Gs} {gT_3 : Gs} {gP1 : Gs} {gP2 : Gs} {q : Int32 × Gs × Gs × Gs × Gs × Gs}, Cx p s m args meth c cX5_readAsked (some .int) 4 RX5 lw_all → Hx D (tX5 yT ++ (tTP yT_0 ++ (tX7 yT_1 ++ (tX6 yT_1_1 ++ (tX2 yT_2 ++ (tX8 yT_3 ++ (tX4 yP1 ++ (tX0 yP2)))))))) A s H locs (wX5 hT aT yT gT ++ (wTP (aT 0) aT_0 yT_0 gT_0 ++ (wX7 (aT 1) (va_up aT_1 0 (aT 0)) yT_1 gT_1 ++ (wX6 ((va_up aT_1 0 (aT 0)) 1) aT_1_1 yT_1_1 gT_1_1 ++ (wX2 (aT 2) (va_up aT_2 0 (aT 0)) yT_2 gT_2 ++ (wX8 (aT 3) aT_3 yT_3 gT_3 ++ (wX4 hP1 aP1 yP1 gP1 ++ (wX0 hP2 aP2 yP2 gP2)))))))) → lv_has ls 4 [(0, .ref hT)] → fn gT gT_0 gT_1 gT_1_1 gT_2 gT_3 gP1 gP2 = some q → W p l e R_X5_readAsked s m args below meth c H locs 0 0 (MQ below (QI D A (wX5 hT aT yT q.2.1 ++ (wTP (aT 0) aT_0 yT_0 gT_0 ++ (wX7 (aT 1) (va_up aT_1 0 (aT 0)) yT_1 q.2.2.1 ++ (wX6 ((va_up aT_1 0 (aT 0)) 1) aT_1_1 yT_1_1 gT_1_1 ++ (wX2 (aT 2) (va_up aT_2 0 (aT 0)) yT_2 q.2.2.2.1 ++ (wX8 (aT 3) aT_3 yT_3 q.2.2.2.2.1 ++ (wX4 hP1 aP1 yP1 gP1 ++ (wX0 hP2 aP2 yP2 q.2.2.2.2.2)))))))) q.1) args s 0 0 A) (F0 m 41 ls [])
def S_X5_readAsked_76 (l : Launch) (D : Dx) (hT : Nat) (aT : Nat → Nat) (yT : Nat → ClassId) (aT_0 : Nat → Nat) (yT_0 : Nat → ClassId) (aT_1 : Nat → Nat) (yT_1 : Nat → ClassId) (aT_1_1 : Nat → Nat) (yT_1_1 : Nat → ClassId) (aT_2 : Nat → Nat) (yT_2 : Nat → ClassId) (aT_3 : Nat → Nat) (yT_3 : Nat → ClassId) (hP1 : Nat) (aP1 : Nat → Nat) (yP1 : Nat → ClassId) (hP2 : Nat) (aP2 : Nat → Nat) (yP2 : Nat → ClassId) (fn : Gs → Gs → Gs → Gs → Gs → Gs → Gs → Gs → Int32 → Option (Int32 × Gs × Gs × Gs × Gs × Gs)) : Prop :=
  ∀ {p : Program} {e : Env} {s : State} {m : MethodId} {args : Array Value} {below : List Frame} {meth : Method} {c : Code} {H : Heap} {locs : List Loc} {A : Nat → Prop} {ls : Array Slot} {gT : Gs} {gT_0 : Gs} {gT_1 : Gs} {gT_1_1 : Gs} {gT_2 : Gs} {gT_3 : Gs} {gP1 : Gs} {gP2 : Gs} {s0 : Int32} {q : Int32 × Gs × Gs × Gs × Gs × Gs}, Cx p s m args meth c cX5_readAsked (some .int) 4 RX5 lw_all → Hx D (tX5 yT ++ (tTP yT_0 ++ (tX7 yT_1 ++ (tX6 yT_1_1 ++ (tX2 yT_2 ++ (tX8 yT_3 ++ (tX4 yP1 ++ (tX0 yP2)))))))) A s H locs (wX5 hT aT yT gT ++ (wTP (aT 0) aT_0 yT_0 gT_0 ++ (wX7 (aT 1) (va_up aT_1 0 (aT 0)) yT_1 gT_1 ++ (wX6 ((va_up aT_1 0 (aT 0)) 1) aT_1_1 yT_1_1 gT_1_1 ++ (wX2 (aT 2) (va_up aT_2 0 (aT 0)) yT_2 gT_2 ++ (wX8 (aT 3) aT_3 yT_3 gT_3 ++ (wX4 hP1 aP1 yP1 gP1 ++ (wX0 hP2 aP2 yP2 gP2)))))))) → lv_has ls 4 [] → fn gT gT_0 gT_1 gT_1_1 gT_2 gT_3 gP1 gP2 s0 = some q → W p l e R_X5_readAsked s m args below meth c H locs 0 0 (MQ below (QI D A (wX5 hT aT yT q.2.1 ++ (wTP (aT 0) aT_0 yT_0 gT_0 ++ (wX7 (aT 1) (va_up aT_1 0 (aT 0)) yT_1 q.2.2.1 ++ (wX6 ((va_up aT_1 0 (aT 0)) 1) aT_1_1 yT_1_1 gT_1_1 ++ (wX2 (aT 2) (va_up aT_2 0 (aT 0)) yT_2 q.2.2.2.1 ++ (wX8 (aT 3) aT_3 yT_3 q.2.2.2.2.1 ++ (wX4 hP1 aP1 yP1 gP1 ++ (wX0 hP2 aP2 yP2 q.2.2.2.2.2)))))))) q.1) args s 0 0 A) (F0 m 76 ls [.int s0, .ref hT])
set_option maxHeartbeats 4000000 in
set_option maxRecDepth 100000 in
theorem k_X5_readAsked_41 (l : Launch) (D : Dx) (hT : Nat) (aT : Nat → Nat) (yT : Nat → ClassId) (aT_0 : Nat → Nat) (yT_0 : Nat → ClassId) (aT_1 : Nat → Nat) (yT_1 : Nat → ClassId) (aT_1_1 : Nat → Nat) (yT_1_1 : Nat → ClassId) (aT_2 : Nat → Nat) (yT_2 : Nat → ClassId) (aT_3 : Nat → Nat) (yT_3 : Nat → ClassId) (hP1 : Nat) (aP1 : Nat → Nat) (yP1 : Nat → ClassId) (hP2 : Nat) (aP2 : Nat → Nat) (yP2 : Nat → ClassId) (n : Nat) : S_X5_readAsked_41 l D hT aT yT aT_0 yT_0 aT_1 yT_1 aT_1_1 yT_1_1 aT_2 yT_2 aT_3 yT_3 hP1 aP1 yP1 hP2 aP2 yP2 (b_X5_readAsked_41 n hP1 hP2) := by
  intro p e s m args below meth c H locs A ls gT gT_0 gT_1 gT_1_1 gT_2 gT_3 gP1 gP2 q C X hl hF
  obtain ⟨hx, hb, hr, hml, hown, hts, hlk⟩ := id C
  unfold b_X5_readAsked_41 at hF
  refine lv_aload_n hx hb dX5_readAsked_41 rfl (lv_at hl 0 rfl) ?_
  refine lv_iconst (v := (1 : Int32)) hx hb dX5_readAsked_42 (by decide) ?_
  refine lv_aload_n hx hb dX5_readAsked_43 rfl (lv_at hl 0 rfl) ?_
  refine va_get (D := D.1) (ci := 5) (v := .ref (aT 1)) (C := RX5) (T := TX5) (N := 18) hx hb hts wi_X5 hown X.1 X.2.1 0 rfl rfl 1 (by decide) (hts _ q3_52) (fun _ h9 => h9) (fl_get (by decide)) dX5_readAsked_44 ?_
  refine va_getN (D := D.1) (ci := 7) (v := .int (gI gT_1 5)) (C := RX7) (T := TX7) (N := 12) hx hb hts wi_X7 hown X.1 X.2.1 6 rfl rfl 5 (by decide) (X.2.2.2.2.2.1.use q3_2 rfl) (fun _ h9 => h9) (fl_get (by decide)) dX5_readAsked_47 ?_
  obtain ⟨q_9, hc_10, hF⟩ := bnd_some hF
  refine cV_i (As := [.int (1 : Int32), .int (gI gT_1 5)]) (rest := []) C X (c_X5_refuse l D hT aT yT gT (1 : Int32) (gI gT_1 5) q_9 hc_10 _) (cwV 2 hts (good_V q4_172 q4_174 q0_35 q1_10 q4_175) rfl rfl rfl (by decide +kernel) ⟨Nat.le_of_ble_eq_true rfl, Nat.le_of_ble_eq_true rfl⟩) (va_recv X.1 X.2.1 (ci := 5) (q0 := 0) rfl rfl) (X.1.sub (tys' := tX5 yT) [0, 1, 2, 3] rfl) (X.2.1.sub (ws' := wX5 hT aT yT gT) [0, 1, 2, 3, 4] rfl) (X.2.2.1.sub (ws' := wX5 hT aT yT gT) [0, 1, 2, 3, 4] (by decide) rfl) (free_of (wC := wX5 hT aT yT gT) (isC := [0, 1, 2, 3, 4]) X rfl) hl.1 rfl rfl (Nat.le_of_ble_eq_true rfl) dX5_readAsked_50 ⟨Nat.le_of_ble_eq_true rfl, Nat.le_of_ble_eq_true rfl⟩ (fun t H1 locs1 ht hB hk hS => ?_)
  have X : Hx D (tX5 yT ++ (tTP yT_0 ++ (tX7 yT_1 ++ (tX6 yT_1_1 ++ (tX2 yT_2 ++ (tX8 yT_3 ++ (tX4 yP1 ++ (tX0 yP2)))))))) A s H1 locs1 (wX5 hT aT yT q_9.2 ++ (wTP (aT 0) aT_0 yT_0 gT_0 ++ (wX7 (aT 1) (va_up aT_1 0 (aT 0)) yT_1 gT_1 ++ (wX6 ((va_up aT_1 0 (aT 0)) 1) aT_1_1 yT_1_1 gT_1_1 ++ (wX2 (aT 2) (va_up aT_2 0 (aT 0)) yT_2 gT_2 ++ (wX8 (aT 3) aT_3 yT_3 gT_3 ++ (wX4 hP1 aP1 yP1 gP1 ++ (wX0 hP2 aP2 yP2 gP2)))))))) := Hx_after (isC := [0, 1, 2, 3, 4]) (isR := [5, 6, 7, 8, 9, 10, 11, 12, 13, 14, 15, 16, 17, 18, 19, 20, 21, 22, 23, 24, 25, 26, 27, 28, 29, 30, 31, 32, 33, 34, 35, 36, 37, 38]) (pm := [34, 35, 36, 37, 38, 0, 1, 2, 3, 4, 5, 6, 7, 8, 9, 10, 11, 12, 13, 14, 15, 16, 17, 18, 19, 20, 21, 22, 23, 24, 25, 26, 27, 28, 29, 30, 31, 32, 33]) (wr := wTP (aT 0) aT_0 yT_0 gT_0 ++ (wX7 (aT 1) (va_up aT_1 0 (aT 0)) yT_1 gT_1 ++ (wX6 ((va_up aT_1 0 (aT 0)) 1) aT_1_1 yT_1_1 gT_1_1 ++ (wX2 (aT 2) (va_up aT_2 0 (aT 0)) yT_2 gT_2 ++ (wX8 (aT 3) aT_3 yT_3 gT_3 ++ (wX4 hP1 aP1 yP1 gP1 ++ (wX0 hP2 aP2 yP2 gP2))))))) X ⟨rfl, rfl, by decide, by decide, rfl, by decide⟩ ht hB hk hS
  clear hk hS ht hB
  generalize H1 = H at X ⊢
  generalize locs1 = locs at X ⊢
  have hq := Option.some.inj hF
  subst hq
  exact rt_i C X dX5_readAsked_53
set_option maxHeartbeats 4000000 in
set_option maxRecDepth 100000 in
theorem k_X5_readAsked_76 (l : Launch) (D : Dx) (hT : Nat) (aT : Nat → Nat) (yT : Nat → ClassId) (aT_0 : Nat → Nat) (yT_0 : Nat → ClassId) (aT_1 : Nat → Nat) (yT_1 : Nat → ClassId) (aT_1_1 : Nat → Nat) (yT_1_1 : Nat → ClassId) (aT_2 : Nat → Nat) (yT_2 : Nat → ClassId) (aT_3 : Nat → Nat) (yT_3 : Nat → ClassId) (hP1 : Nat) (aP1 : Nat → Nat) (yP1 : Nat → ClassId) (hP2 : Nat) (aP2 : Nat → Nat) (yP2 : Nat → ClassId) (n : Nat) : S_X5_readAsked_76 l D hT aT yT aT_0 yT_0 aT_1 yT_1 aT_1_1 yT_1_1 aT_2 yT_2 aT_3 yT_3 hP1 aP1 yP1 hP2 aP2 yP2 (b_X5_readAsked_76 n hP1 hP2) := by
  intro p e s m args below meth c H locs A ls gT gT_0 gT_1 gT_1_1 gT_2 gT_3 gP1 gP2 s0 q C X hl hF
  obtain ⟨hx, hb, hr, hml, hown, hts, hlk⟩ := id C
  unfold b_X5_readAsked_76 at hF
  obtain ⟨q_11, hc_12, hF⟩ := bnd_some hF
  refine cV_i (As := [.int s0]) (rest := []) C X (c_X5_settle l D hT aT yT aT_3 yT_3 hP1 aP1 yP1 hP2 aP2 yP2 n gT gT_3 gP1 gP2 s0 q_11 hc_12 _) (cwV 1 hts (good_V q4_214 q4_216 q0_41 q1_10 q4_217) rfl rfl rfl (by decide +kernel) ⟨Nat.le_of_ble_eq_true rfl, Nat.le_of_ble_eq_true rfl⟩) (va_recv X.1 X.2.1 (ci := 5) (q0 := 0) rfl rfl) (X.1.sub (tys' := tX5 yT ++ (tX8 yT_3 ++ (tX4 yP1 ++ (tX0 yP2)))) [0, 1, 2, 3, 6, 7, 8, 9, 10, 11, 12, 13, 14, 15, 16, 17, 18, 19, 20, 21, 22, 23, 24, 25, 26, 27, 28, 29, 30, 31] rfl) (X.2.1.sub (ws' := wX5 hT aT yT gT ++ (wX8 (aT 3) aT_3 yT_3 gT_3 ++ (wX4 hP1 aP1 yP1 gP1 ++ (wX0 hP2 aP2 yP2 gP2)))) [0, 1, 2, 3, 4, 10, 11, 12, 13, 14, 15, 16, 17, 18, 19, 20, 21, 22, 23, 24, 25, 26, 27, 28, 29, 30, 31, 32, 33, 34, 35, 36, 37, 38] rfl) (X.2.2.1.sub (ws' := wX5 hT aT yT gT ++ (wX8 (aT 3) aT_3 yT_3 gT_3 ++ (wX4 hP1 aP1 yP1 gP1 ++ (wX0 hP2 aP2 yP2 gP2)))) [0, 1, 2, 3, 4, 10, 11, 12, 13, 14, 15, 16, 17, 18, 19, 20, 21, 22, 23, 24, 25, 26, 27, 28, 29, 30, 31, 32, 33, 34, 35, 36, 37, 38] (by decide) rfl) (free_of (wC := wX5 hT aT yT gT ++ (wX8 (aT 3) aT_3 yT_3 gT_3 ++ (wX4 hP1 aP1 yP1 gP1 ++ (wX0 hP2 aP2 yP2 gP2)))) (isC := [0, 1, 2, 3, 4, 10, 11, 12, 13, 14, 15, 16, 17, 18, 19, 20, 21, 22, 23, 24, 25, 26, 27, 28, 29, 30, 31, 32, 33, 34, 35, 36, 37, 38]) X rfl) hl.1 rfl rfl (Nat.le_of_ble_eq_true rfl) dX5_readAsked_76 ⟨Nat.le_of_ble_eq_true rfl, Nat.le_of_ble_eq_true rfl⟩ (fun t H1 locs1 ht hB hk hS => ?_)
  have X : Hx D (tX5 yT ++ (tTP yT_0 ++ (tX7 yT_1 ++ (tX6 yT_1_1 ++ (tX2 yT_2 ++ (tX8 yT_3 ++ (tX4 yP1 ++ (tX0 yP2)))))))) A s H1 locs1 (wX5 hT aT yT q_11.2.1 ++ (wTP (aT 0) aT_0 yT_0 gT_0 ++ (wX7 (aT 1) (va_up aT_1 0 (aT 0)) yT_1 gT_1 ++ (wX6 ((va_up aT_1 0 (aT 0)) 1) aT_1_1 yT_1_1 gT_1_1 ++ (wX2 (aT 2) (va_up aT_2 0 (aT 0)) yT_2 gT_2 ++ (wX8 (aT 3) aT_3 yT_3 q_11.2.2.1 ++ (wX4 hP1 aP1 yP1 gP1 ++ (wX0 hP2 aP2 yP2 q_11.2.2.2)))))))) := Hx_after (isC := [0, 1, 2, 3, 4, 10, 11, 12, 13, 14, 15, 16, 17, 18, 19, 20, 21, 22, 23, 24, 25, 26, 27, 28, 29, 30, 31, 32, 33, 34, 35, 36, 37, 38]) (isR := [5, 6, 7, 8, 9]) (pm := [5, 6, 7, 8, 9, 0, 1, 2, 3, 4, 10, 11, 12, 13, 14, 15, 16, 17, 18, 19, 20, 21, 22, 23, 24, 25, 26, 27, 28, 29, 30, 31, 32, 33, 34, 35, 36, 37, 38]) (wr := wTP (aT 0) aT_0 yT_0 gT_0 ++ (wX7 (aT 1) (va_up aT_1 0 (aT 0)) yT_1 gT_1 ++ (wX6 ((va_up aT_1 0 (aT 0)) 1) aT_1_1 yT_1_1 gT_1_1 ++ (wX2 (aT 2) (va_up aT_2 0 (aT 0)) yT_2 gT_2)))) X ⟨rfl, rfl, by decide, by decide, rfl, by decide⟩ ht hB hk hS
  clear hk hS ht hB
  generalize H1 = H at X ⊢
  generalize locs1 = locs at X ⊢
  have hq := Option.some.inj hF
  subst hq
  exact rt_i C X dX5_readAsked_79
set_option maxHeartbeats 4000000 in
set_option maxRecDepth 100000 in
theorem c_X5_readAsked (l : Launch) (D : Dx) (hT : Nat) (aT : Nat → Nat) (yT : Nat → ClassId) (aT_0 : Nat → Nat) (yT_0 : Nat → ClassId) (aT_1 : Nat → Nat) (yT_1 : Nat → ClassId) (aT_1_1 : Nat → Nat) (yT_1_1 : Nat → ClassId) (aT_2 : Nat → Nat) (yT_2 : Nat → ClassId) (aT_3 : Nat → Nat) (yT_3 : Nat → ClassId) (hP1 : Nat) (aP1 : Nat → Nat) (yP1 : Nat → ClassId) (hP2 : Nat) (aP2 : Nat → Nat) (yP2 : Nat → ClassId) (n : Nat) (gT : Gs) (gT_0 : Gs) (gT_1 : Gs) (gT_1_1 : Gs) (gT_2 : Gs) (gT_3 : Gs) (gP1 : Gs) (gP2 : Gs) (x0 : Int32) (q : Int32 × Gs × Gs × Gs × Gs × Gs) (hF : f_X5_readAsked n hP1 hP2 gT gT_0 gT_1 gT_1_1 gT_2 gT_3 gP1 gP2 x0 = some q) (sz : Nat) : Met l yX5_readAsked (ws_ yX5_readAsked cX5_readAsked 4 (some .int)) R_X5_readAsked (PC D (tX5 yT ++ (tTP yT_0 ++ (tX7 yT_1 ++ (tX6 yT_1_1 ++ (tX2 yT_2 ++ (tX8 yT_3 ++ (tX4 yP1 ++ (tX0 yP2)))))))) [.ref hT, .int x0, .ref hP1, .ref hP2] (wX5 hT aT yT gT ++ (wTP (aT 0) aT_0 yT_0 gT_0 ++ (wX7 (aT 1) (va_up aT_1 0 (aT 0)) yT_1 gT_1 ++ (wX6 ((va_up aT_1 0 (aT 0)) 1) aT_1_1 yT_1_1 gT_1_1 ++ (wX2 (aT 2) (va_up aT_2 0 (aT 0)) yT_2 gT_2 ++ (wX8 (aT 3) aT_3 yT_3 gT_3 ++ (wX4 hP1 aP1 yP1 gP1 ++ (wX0 hP2 aP2 yP2 gP2)))))))) sz) (QI D (va_A (wX5 hT aT yT gT ++ (wTP (aT 0) aT_0 yT_0 gT_0 ++ (wX7 (aT 1) (va_up aT_1 0 (aT 0)) yT_1 gT_1 ++ (wX6 ((va_up aT_1 0 (aT 0)) 1) aT_1_1 yT_1_1 gT_1_1 ++ (wX2 (aT 2) (va_up aT_2 0 (aT 0)) yT_2 gT_2 ++ (wX8 (aT 3) aT_3 yT_3 gT_3 ++ (wX4 hP1 aP1 yP1 gP1 ++ (wX0 hP2 aP2 yP2 gP2)))))))) sz) (wX5 hT aT yT q.2.1 ++ (wTP (aT 0) aT_0 yT_0 gT_0 ++ (wX7 (aT 1) (va_up aT_1 0 (aT 0)) yT_1 q.2.2.1 ++ (wX6 ((va_up aT_1 0 (aT 0)) 1) aT_1_1 yT_1_1 gT_1_1 ++ (wX2 (aT 2) (va_up aT_2 0 (aT 0)) yT_2 q.2.2.2.1 ++ (wX8 (aT 3) aT_3 yT_3 q.2.2.2.2.1 ++ (wX4 hP1 aP1 yP1 gP1 ++ (wX0 hP2 aP2 yP2 q.2.2.2.2.2)))))))) q.1) 0 0 (va_A (wX5 hT aT yT gT ++ (wTP (aT 0) aT_0 yT_0 gT_0 ++ (wX7 (aT 1) (va_up aT_1 0 (aT 0)) yT_1 gT_1 ++ (wX6 ((va_up aT_1 0 (aT 0)) 1) aT_1_1 yT_1_1 gT_1_1 ++ (wX2 (aT 2) (va_up aT_2 0 (aT 0)) yT_2 gT_2 ++ (wX8 (aT 3) aT_3 yT_3 gT_3 ++ (wX4 hP1 aP1 yP1 gP1 ++ (wX0 hP2 aP2 yP2 gP2)))))))) sz) := by
  refine Met.ofW (cc := cX5_readAsked) (maxL := 4) (ret := (some .int)) (by decide) rfl ?_
  intro p e s m args below meth c s₁ B hml hv
  obtain ⟨rfl, hsz, hP, hK, hD, hN⟩ := hv
  subst hsz
  have C : Cx p s m _ meth c cX5_readAsked (some .int) 4 RX5 lw_all := Cx_of B hml
  have X := Hx_start hP hK hD hN
  obtain ⟨hx, hb, hr, -, hown, hts, hlk⟩ := id C
  generalize va_A (wX5 hT aT yT gT ++ (wTP (aT 0) aT_0 yT_0 gT_0 ++ (wX7 (aT 1) (va_up aT_1 0 (aT 0)) yT_1 gT_1 ++ (wX6 ((va_up aT_1 0 (aT 0)) 1) aT_1_1 yT_1_1 gT_1_1 ++ (wX2 (aT 2) (va_up aT_2 0 (aT 0)) yT_2 gT_2 ++ (wX8 (aT 3) aT_3 yT_3 gT_3 ++ (wX4 hP1 aP1 yP1 gP1 ++ (wX0 hP2 aP2 yP2 gP2)))))))) s.heap.size = A at X ⊢
  have hl := lv_entry ([.ref hT, .int x0, .ref hP1, .ref hP2]) (n := 4) (Nat.le_of_ble_eq_true rfl)
  rw [lg_entry_eq]
  generalize (lg_sl ([.ref hT, .int x0, .ref hP1, .ref hP2]) ++ List.replicate (4 - (lg_sl ([.ref hT, .int x0, .ref hP1, .ref hP2])).length) Slot.unset).toArray = ls at hl ⊢
  have hl : lv_has ls 4 [(0, .ref hT), (1, .int x0), (2, .ref hP1), (3, .ref hP2)] := hl
  unfold f_X5_readAsked at hF
  refine lv_aload_n hx hb dX5_readAsked_0 rfl (lv_at hl 3 rfl) ?_
  obtain ⟨q_1, hc_2, hF⟩ := bnd_some hF
  refine cV_v (As := []) (rest := []) C X (c_X0_clear l D hP2 aP2 yP2 gP2 q_1 hc_2 _) (cwV 0 hts (good_V q6_28 q3_116 q3_117 q1_8 q3_118) rfl rfl rfl (by decide +kernel) ⟨Nat.le_of_ble_eq_true rfl, Nat.le_of_ble_eq_true rfl⟩) (va_recv X.1 X.2.1 (ci := 0) (q0 := 23) rfl rfl) (X.1.sub (tys' := tX0 yP2) [17, 18, 19, 20, 21, 22, 23, 24, 25, 26, 27, 28, 29, 30, 31] rfl) (X.2.1.sub (ws' := wX0 hP2 aP2 yP2 gP2) [23, 24, 25, 26, 27, 28, 29, 30, 31, 32, 33, 34, 35, 36, 37, 38] rfl) (X.2.2.1.sub (ws' := wX0 hP2 aP2 yP2 gP2) [23, 24, 25, 26, 27, 28, 29, 30, 31, 32, 33, 34, 35, 36, 37, 38] (by decide) rfl) (free_of (wC := wX0 hP2 aP2 yP2 gP2) (isC := [23, 24, 25, 26, 27, 28, 29, 30, 31, 32, 33, 34, 35, 36, 37, 38]) X rfl) hl.1 rfl rfl (Nat.le_of_ble_eq_true rfl) dX5_readAsked_1 ⟨Nat.le_of_ble_eq_true rfl, Nat.le_of_ble_eq_true rfl⟩ (fun t H1 locs1 ht hB hk hS => ?_)
  have X : Hx D (tX5 yT ++ (tTP yT_0 ++ (tX7 yT_1 ++ (tX6 yT_1_1 ++ (tX2 yT_2 ++ (tX8 yT_3 ++ (tX4 yP1 ++ (tX0 yP2)))))))) A s H1 locs1 (wX5 hT aT yT gT ++ (wTP (aT 0) aT_0 yT_0 gT_0 ++ (wX7 (aT 1) (va_up aT_1 0 (aT 0)) yT_1 gT_1 ++ (wX6 ((va_up aT_1 0 (aT 0)) 1) aT_1_1 yT_1_1 gT_1_1 ++ (wX2 (aT 2) (va_up aT_2 0 (aT 0)) yT_2 gT_2 ++ (wX8 (aT 3) aT_3 yT_3 gT_3 ++ (wX4 hP1 aP1 yP1 gP1 ++ (wX0 hP2 aP2 yP2 q_1)))))))) := Hx_after (isC := [23, 24, 25, 26, 27, 28, 29, 30, 31, 32, 33, 34, 35, 36, 37, 38]) (isR := [0, 1, 2, 3, 4, 5, 6, 7, 8, 9, 10, 11, 12, 13, 14, 15, 16, 17, 18, 19, 20, 21, 22]) (pm := [0, 1, 2, 3, 4, 5, 6, 7, 8, 9, 10, 11, 12, 13, 14, 15, 16, 17, 18, 19, 20, 21, 22, 23, 24, 25, 26, 27, 28, 29, 30, 31, 32, 33, 34, 35, 36, 37, 38]) (wr := wX5 hT aT yT gT ++ (wTP (aT 0) aT_0 yT_0 gT_0 ++ (wX7 (aT 1) (va_up aT_1 0 (aT 0)) yT_1 gT_1 ++ (wX6 ((va_up aT_1 0 (aT 0)) 1) aT_1_1 yT_1_1 gT_1_1 ++ (wX2 (aT 2) (va_up aT_2 0 (aT 0)) yT_2 gT_2 ++ (wX8 (aT 3) aT_3 yT_3 gT_3 ++ (wX4 hP1 aP1 yP1 gP1))))))) X ⟨rfl, rfl, by decide, by decide, rfl, by decide⟩ ht hB hk hS
  clear hk hS ht hB
  generalize H1 = H at X ⊢
  generalize locs1 = locs at X ⊢
  refine lv_aload_n hx hb dX5_readAsked_4 rfl (lv_at hl 0 rfl) ?_
  refine lv_aload_n hx hb dX5_readAsked_5 rfl (lv_at hl 2 rfl) ?_
  refine lv_aload_n hx hb dX5_readAsked_6 rfl (lv_at hl 3 rfl) ?_
  obtain ⟨q_3, hc_4, hF⟩ := bnd_some hF
  refine cV_v (As := [.ref hP1, .ref hP2]) (rest := []) C X (c_X5_begin l D hT aT yT hP1 aP1 yP1 hP2 aP2 yP2 gT gP1 q_1 q_3 hc_4 _) (cwV 2 hts (good_V q3_119 q3_121 q0_2 q1_10 q3_122) rfl rfl rfl (by decide +kernel) ⟨Nat.le_of_ble_eq_true rfl, Nat.le_of_ble_eq_true rfl⟩) (va_recv X.1 X.2.1 (ci := 5) (q0 := 0) rfl rfl) (X.1.sub (tys' := tX5 yT ++ (tX4 yP1 ++ (tX0 yP2))) [0, 1, 2, 3, 7, 8, 9, 10, 11, 12, 13, 14, 15, 16, 17, 18, 19, 20, 21, 22, 23, 24, 25, 26, 27, 28, 29, 30, 31] rfl) (X.2.1.sub (ws' := wX5 hT aT yT gT ++ (wX4 hP1 aP1 yP1 gP1 ++ (wX0 hP2 aP2 yP2 q_1))) [0, 1, 2, 3, 4, 12, 13, 14, 15, 16, 17, 18, 19, 20, 21, 22, 23, 24, 25, 26, 27, 28, 29, 30, 31, 32, 33, 34, 35, 36, 37, 38] rfl) (X.2.2.1.sub (ws' := wX5 hT aT yT gT ++ (wX4 hP1 aP1 yP1 gP1 ++ (wX0 hP2 aP2 yP2 q_1))) [0, 1, 2, 3, 4, 12, 13, 14, 15, 16, 17, 18, 19, 20, 21, 22, 23, 24, 25, 26, 27, 28, 29, 30, 31, 32, 33, 34, 35, 36, 37, 38] (by decide) rfl) (free_of (wC := wX5 hT aT yT gT ++ (wX4 hP1 aP1 yP1 gP1 ++ (wX0 hP2 aP2 yP2 q_1))) (isC := [0, 1, 2, 3, 4, 12, 13, 14, 15, 16, 17, 18, 19, 20, 21, 22, 23, 24, 25, 26, 27, 28, 29, 30, 31, 32, 33, 34, 35, 36, 37, 38]) X rfl) hl.1 rfl rfl (Nat.le_of_ble_eq_true rfl) dX5_readAsked_7 ⟨Nat.le_of_ble_eq_true rfl, Nat.le_of_ble_eq_true rfl⟩ (fun t H1 locs1 ht hB hk hS => ?_)
  have X : Hx D (tX5 yT ++ (tTP yT_0 ++ (tX7 yT_1 ++ (tX6 yT_1_1 ++ (tX2 yT_2 ++ (tX8 yT_3 ++ (tX4 yP1 ++ (tX0 yP2)))))))) A s H1 locs1 (wX5 hT aT yT q_3 ++ (wTP (aT 0) aT_0 yT_0 gT_0 ++ (wX7 (aT 1) (va_up aT_1 0 (aT 0)) yT_1 gT_1 ++ (wX6 ((va_up aT_1 0 (aT 0)) 1) aT_1_1 yT_1_1 gT_1_1 ++ (wX2 (aT 2) (va_up aT_2 0 (aT 0)) yT_2 gT_2 ++ (wX8 (aT 3) aT_3 yT_3 gT_3 ++ (wX4 hP1 aP1 yP1 gP1 ++ (wX0 hP2 aP2 yP2 q_1)))))))) := Hx_after (isC := [0, 1, 2, 3, 4, 12, 13, 14, 15, 16, 17, 18, 19, 20, 21, 22, 23, 24, 25, 26, 27, 28, 29, 30, 31, 32, 33, 34, 35, 36, 37, 38]) (isR := [5, 6, 7, 8, 9, 10, 11]) (pm := [7, 8, 9, 10, 11, 0, 1, 2, 3, 4, 5, 6, 12, 13, 14, 15, 16, 17, 18, 19, 20, 21, 22, 23, 24, 25, 26, 27, 28, 29, 30, 31, 32, 33, 34, 35, 36, 37, 38]) (wr := wTP (aT 0) aT_0 yT_0 gT_0 ++ (wX7 (aT 1) (va_up aT_1 0 (aT 0)) yT_1 gT_1 ++ (wX6 ((va_up aT_1 0 (aT 0)) 1) aT_1_1 yT_1_1 gT_1_1 ++ (wX2 (aT 2) (va_up aT_2 0 (aT 0)) yT_2 gT_2 ++ (wX8 (aT 3) aT_3 yT_3 gT_3))))) X ⟨rfl, rfl, by decide, by decide, rfl, by decide⟩ ht hB hk hS
  clear hk hS ht hB
  generalize H1 = H at X ⊢
  generalize locs1 = locs at X ⊢
  refine lv_aload_n hx hb dX5_readAsked_10 rfl (lv_at hl 0 rfl) ?_
  refine va_get (D := D.1) (ci := 5) (v := .ref (aT 1)) (C := RX5) (T := TX5) (N := 18) hx hb hts wi_X5 hown X.1 X.2.1 0 rfl rfl 1 (by decide) (hts _ q3_52) (fun _ h9 => h9) (fl_get (by decide)) dX5_readAsked_11 ?_
  refine lv_iload_n hx hb dX5_readAsked_14 rfl (lv_at hl 1 rfl) ?_
  obtain ⟨q_5, hc_6, hF⟩ := bnd_some hF
  refine cV_v (As := [.int x0]) (rest := []) C X (c_X7_begin l D (aT 1) (va_up aT_1 0 (aT 0)) yT_1 aT_0 yT_0 aT_1_1 yT_1_1 n gT_1 gT_0 gT_1_1 x0 q_5 hc_6 _) (cwV 1 hts (good_V q3_123 q3_124 q3_125 q1_12 q3_126) rfl rfl rfl (by decide +kernel) ⟨Nat.le_of_ble_eq_true rfl, Nat.le_of_ble_eq_true rfl⟩) (va_recv X.1 X.2.1 (ci := 7) (q0 := 6) rfl rfl) (X.1.sub (tys' := tX7 yT_1 ++ (tTP yT_0 ++ (tX6 yT_1_1))) [4, 5] rfl) (X.2.1.sub (ws' := wX7 (aT 1) (va_up aT_1 0 (aT 0)) yT_1 gT_1 ++ (wTP (aT 0) aT_0 yT_0 gT_0 ++ (wX6 ((va_up aT_1 0 (aT 0)) 1) aT_1_1 yT_1_1 gT_1_1))) [6, 5, 7, 8] rfl) (X.2.2.1.sub (ws' := wX7 (aT 1) (va_up aT_1 0 (aT 0)) yT_1 gT_1 ++ (wTP (aT 0) aT_0 yT_0 gT_0 ++ (wX6 ((va_up aT_1 0 (aT 0)) 1) aT_1_1 yT_1_1 gT_1_1))) [6, 5, 7, 8] (by decide) rfl) (free_of (wC := wX7 (aT 1) (va_up aT_1 0 (aT 0)) yT_1 gT_1 ++ (wTP (aT 0) aT_0 yT_0 gT_0 ++ (wX6 ((va_up aT_1 0 (aT 0)) 1) aT_1_1 yT_1_1 gT_1_1))) (isC := [6, 5, 7, 8]) X rfl) hl.1 rfl rfl (Nat.le_of_ble_eq_true rfl) dX5_readAsked_15 ⟨Nat.le_of_ble_eq_true rfl, Nat.le_of_ble_eq_true rfl⟩ (fun t H1 locs1 ht hB hk hS => ?_)
  have X : Hx D (tX5 yT ++ (tTP yT_0 ++ (tX7 yT_1 ++ (tX6 yT_1_1 ++ (tX2 yT_2 ++ (tX8 yT_3 ++ (tX4 yP1 ++ (tX0 yP2)))))))) A s H1 locs1 (wX5 hT aT yT q_3 ++ (wTP (aT 0) aT_0 yT_0 gT_0 ++ (wX7 (aT 1) (va_up aT_1 0 (aT 0)) yT_1 q_5 ++ (wX6 ((va_up aT_1 0 (aT 0)) 1) aT_1_1 yT_1_1 gT_1_1 ++ (wX2 (aT 2) (va_up aT_2 0 (aT 0)) yT_2 gT_2 ++ (wX8 (aT 3) aT_3 yT_3 gT_3 ++ (wX4 hP1 aP1 yP1 gP1 ++ (wX0 hP2 aP2 yP2 q_1)))))))) := Hx_after (isC := [6, 5, 7, 8]) (isR := [0, 1, 2, 3, 4, 9, 10, 11, 12, 13, 14, 15, 16, 17, 18, 19, 20, 21, 22, 23, 24, 25, 26, 27, 28, 29, 30, 31, 32, 33, 34, 35, 36, 37, 38]) (pm := [0, 1, 2, 3, 4, 36, 35, 37, 38, 5, 6, 7, 8, 9, 10, 11, 12, 13, 14, 15, 16, 17, 18, 19, 20, 21, 22, 23, 24, 25, 26, 27, 28, 29, 30, 31, 32, 33, 34]) (wr := wX5 hT aT yT q_3 ++ (wX2 (aT 2) (va_up aT_2 0 (aT 0)) yT_2 gT_2 ++ (wX8 (aT 3) aT_3 yT_3 gT_3 ++ (wX4 hP1 aP1 yP1 gP1 ++ (wX0 hP2 aP2 yP2 q_1))))) X ⟨rfl, rfl, by decide, by decide, rfl, by decide⟩ ht hB hk hS
  clear hk hS ht hB
  generalize H1 = H at X ⊢
  generalize locs1 = locs at X ⊢
  refine lv_aload_n hx hb dX5_readAsked_18 rfl (lv_at hl 0 rfl) ?_
  refine lv_iconst (v := (-1 : Int32)) hx hb dX5_readAsked_19 (by decide) ?_
  refine lv_iconst (v := (0 : Int32)) hx hb dX5_readAsked_20 (by decide) ?_
  refine lv_bipush (v := (40 : Int32)) hx hb dX5_readAsked_21 (by decide) ?_
  refine lv_bipush (v := (8 : Int32)) hx hb dX5_readAsked_23 (by decide) ?_
  obtain ⟨q_7, hc_8, hF⟩ := bnd_some hF
  refine cV_i (As := [.int (-1 : Int32), .int (0 : Int32), .int (40 : Int32), .int (8 : Int32)]) (rest := []) C X (c_X5_readFormula l D hT aT yT aT_0 yT_0 (va_up aT_1 0 (aT 0)) yT_1 aT_1_1 yT_1_1 hP2 aP2 yP2 n q_3 gT_0 q_5 gT_1_1 q_1 (-1 : Int32) (0 : Int32) (40 : Int32) (8 : Int32) q_7 hc_8 _) (cwV 4 hts (good_V q4_82 q4_84 q0_15 q1_10 q4_85) rfl rfl rfl (by decide +kernel) ⟨Nat.le_of_ble_eq_true rfl, Nat.le_of_ble_eq_true rfl⟩) (va_recv X.1 X.2.1 (ci := 5) (q0 := 0) rfl rfl) (X.1.sub (tys' := tX5 yT ++ (tTP yT_0 ++ (tX7 yT_1 ++ (tX6 yT_1_1 ++ (tX0 yP2))))) [0, 1, 2, 3, 4, 5, 17, 18, 19, 20, 21, 22, 23, 24, 25, 26, 27, 28, 29, 30, 31] rfl) (X.2.1.sub (ws' := wX5 hT aT yT q_3 ++ (wTP (aT 0) aT_0 yT_0 gT_0 ++ (wX7 (aT 1) (va_up aT_1 0 (aT 0)) yT_1 q_5 ++ (wX6 ((va_up aT_1 0 (aT 0)) 1) aT_1_1 yT_1_1 gT_1_1 ++ (wX0 hP2 aP2 yP2 q_1))))) [0, 1, 2, 3, 4, 5, 6, 7, 8, 23, 24, 25, 26, 27, 28, 29, 30, 31, 32, 33, 34, 35, 36, 37, 38] rfl) (X.2.2.1.sub (ws' := wX5 hT aT yT q_3 ++ (wTP (aT 0) aT_0 yT_0 gT_0 ++ (wX7 (aT 1) (va_up aT_1 0 (aT 0)) yT_1 q_5 ++ (wX6 ((va_up aT_1 0 (aT 0)) 1) aT_1_1 yT_1_1 gT_1_1 ++ (wX0 hP2 aP2 yP2 q_1))))) [0, 1, 2, 3, 4, 5, 6, 7, 8, 23, 24, 25, 26, 27, 28, 29, 30, 31, 32, 33, 34, 35, 36, 37, 38] (by decide) rfl) (free_of (wC := wX5 hT aT yT q_3 ++ (wTP (aT 0) aT_0 yT_0 gT_0 ++ (wX7 (aT 1) (va_up aT_1 0 (aT 0)) yT_1 q_5 ++ (wX6 ((va_up aT_1 0 (aT 0)) 1) aT_1_1 yT_1_1 gT_1_1 ++ (wX0 hP2 aP2 yP2 q_1))))) (isC := [0, 1, 2, 3, 4, 5, 6, 7, 8, 23, 24, 25, 26, 27, 28, 29, 30, 31, 32, 33, 34, 35, 36, 37, 38]) X rfl) hl.1 rfl rfl (Nat.le_of_ble_eq_true rfl) dX5_readAsked_25 ⟨Nat.le_of_ble_eq_true rfl, Nat.le_of_ble_eq_true rfl⟩ (fun t H1 locs1 ht hB hk hS => ?_)
  have X : Hx D (tX5 yT ++ (tTP yT_0 ++ (tX7 yT_1 ++ (tX6 yT_1_1 ++ (tX2 yT_2 ++ (tX8 yT_3 ++ (tX4 yP1 ++ (tX0 yP2)))))))) A s H1 locs1 (wX5 hT aT yT q_7.2.1 ++ (wTP (aT 0) aT_0 yT_0 gT_0 ++ (wX7 (aT 1) (va_up aT_1 0 (aT 0)) yT_1 q_7.2.2.1 ++ (wX6 ((va_up aT_1 0 (aT 0)) 1) aT_1_1 yT_1_1 gT_1_1 ++ (wX2 (aT 2) (va_up aT_2 0 (aT 0)) yT_2 gT_2 ++ (wX8 (aT 3) aT_3 yT_3 gT_3 ++ (wX4 hP1 aP1 yP1 gP1 ++ (wX0 hP2 aP2 yP2 q_7.2.2.2)))))))) := Hx_after (isC := [0, 1, 2, 3, 4, 5, 6, 7, 8, 23, 24, 25, 26, 27, 28, 29, 30, 31, 32, 33, 34, 35, 36, 37, 38]) (isR := [9, 10, 11, 12, 13, 14, 15, 16, 17, 18, 19, 20, 21, 22]) (pm := [14, 15, 16, 17, 18, 19, 20, 21, 22, 0, 1, 2, 3, 4, 5, 6, 7, 8, 9, 10, 11, 12, 13, 23, 24, 25, 26, 27, 28, 29, 30, 31, 32, 33, 34, 35, 36, 37, 38]) (wr := wX2 (aT 2) (va_up aT_2 0 (aT 0)) yT_2 gT_2 ++ (wX8 (aT 3) aT_3 yT_3 gT_3 ++ (wX4 hP1 aP1 yP1 gP1))) X ⟨rfl, rfl, by decide, by decide, rfl, by decide⟩ ht hB hk hS
  clear hk hS ht hB
  generalize H1 = H at X ⊢
  generalize locs1 = locs at X ⊢
  refine lv_if_eq (tgt := 41) hx hb dX5_readAsked_28 (by decide) (fun c => ?_) (fun c => ?_)
  · replace hF := iT c hF
    exact (k_X5_readAsked_41 l D hT aT yT aT_0 yT_0 aT_1 yT_1 aT_1_1 yT_1_1 aT_2 yT_2 aT_3 yT_3 hP1 aP1 yP1 hP2 aP2 yP2 n) C X (lv_sub hl [0] rfl) hF
  · replace hF := iF c hF
    refine lv_aload_n hx hb dX5_readAsked_31 rfl (lv_at hl 0 rfl) ?_
    refine va_get (D := D.1) (ci := 5) (v := .ref (aT 1)) (C := RX5) (T := TX5) (N := 18) hx hb hts wi_X5 hown X.1 X.2.1 0 rfl rfl 1 (by decide) (hts _ q3_52) (fun _ h9 => h9) (fl_get (by decide)) dX5_readAsked_32 ?_
    refine va_getN (D := D.1) (ci := 7) (v := .int (gI q_7.2.2.1 4)) (C := RX7) (T := TX7) (N := 12) hx hb hts wi_X7 hown X.1 X.2.1 6 rfl rfl 4 (by decide) (X.2.2.2.2.2.1.use q3_0 rfl) (fun _ h9 => h9) (fl_get (by decide)) dX5_readAsked_35 ?_
    refine lv_if_eq (tgt := 54) hx hb dX5_readAsked_38 (by decide) (fun c => ?_) (fun c => ?_)
    · replace hF := iT c hF
      refine lv_aload_n hx hb dX5_readAsked_54 rfl (lv_at hl 0 rfl) ?_
      refine lv_aload_n hx hb dX5_readAsked_55 rfl (lv_at hl 0 rfl) ?_
      refine va_get (D := D.1) (ci := 5) (v := .int (gI q_7.2.1 16)) (C := RX5) (T := TX5) (N := 18) hx hb hts wi_X5 hown X.1 X.2.1 0 rfl rfl 16 (by decide) (hts _ q3_67) (fun _ h9 => h9) (fl_get (by decide)) dX5_readAsked_56 ?_
      refine lv_iconst (v := (-1 : Int32)) hx hb dX5_readAsked_59 (by decide) ?_
      refine lv_icmp_ne (tgt := 75) hx hb dX5_readAsked_60 (by decide) (fun c => ?_) (fun c => ?_)
      · replace hF := iF c hF
        refine lv_iconst (v := (-1 : Int32)) hx hb dX5_readAsked_75 (by decide) ?_
        exact (k_X5_readAsked_76 l D hT aT yT aT_0 yT_0 aT_1 yT_1 aT_1_1 yT_1_1 aT_2 yT_2 aT_3 yT_3 hP1 aP1 yP1 hP2 aP2 yP2 n) C X (lv_sub hl [] rfl) hF
      · replace hF := iT c hF
        refine lv_aload_n hx hb dX5_readAsked_63 rfl (lv_at hl 0 rfl) ?_
        refine va_get (D := D.1) (ci := 5) (v := .ref (aT 2)) (C := RX5) (T := TX5) (N := 18) hx hb hts wi_X5 hown X.1 X.2.1 0 rfl rfl 2 (by decide) (hts _ q3_53) (fun _ h9 => h9) (fl_get (by decide)) dX5_readAsked_64 ?_
        refine lv_aload_n hx hb dX5_readAsked_67 rfl (lv_at hl 2 rfl) ?_
        refine lv_aload_n hx hb dX5_readAsked_68 rfl (lv_at hl 3 rfl) ?_
        obtain ⟨q_13, hc_14, hF⟩ := bnd_some hF
        refine cV_i (As := [.ref hP1, .ref hP2]) (rest := [.ref hT]) C X (c_X2_firstFaultAsked l D (aT 2) (va_up aT_2 0 (aT 0)) yT_2 aT_0 yT_0 hP1 aP1 yP1 hP2 aP2 yP2 n gT_2 gT_0 gP1 q_7.2.2.2 q_13 hc_14 _) (cwV 2 hts (good_V q6_29 q6_30 q6_31 q1_13 q6_32) rfl rfl rfl (by decide +kernel) ⟨Nat.le_of_ble_eq_true rfl, Nat.le_of_ble_eq_true rfl⟩) (va_recv X.1 X.2.1 (ci := 2) (q0 := 9) rfl rfl) (X.1.sub (tys' := tX2 yT_2 ++ (tTP yT_0 ++ (tX4 yP1 ++ (tX0 yP2)))) [4, 7, 8, 9, 10, 11, 12, 13, 14, 15, 16, 17, 18, 19, 20, 21, 22, 23, 24, 25, 26, 27, 28, 29, 30, 31] rfl) (X.2.1.sub (ws' := wX2 (aT 2) (va_up aT_2 0 (aT 0)) yT_2 gT_2 ++ (wTP (aT 0) aT_0 yT_0 gT_0 ++ (wX4 hP1 aP1 yP1 gP1 ++ (wX0 hP2 aP2 yP2 q_7.2.2.2)))) [9, 5, 12, 13, 14, 15, 16, 17, 18, 19, 20, 21, 22, 23, 24, 25, 26, 27, 28, 29, 30, 31, 32, 33, 34, 35, 36, 37, 38] rfl) (X.2.2.1.sub (ws' := wX2 (aT 2) (va_up aT_2 0 (aT 0)) yT_2 gT_2 ++ (wTP (aT 0) aT_0 yT_0 gT_0 ++ (wX4 hP1 aP1 yP1 gP1 ++ (wX0 hP2 aP2 yP2 q_7.2.2.2)))) [9, 5, 12, 13, 14, 15, 16, 17, 18, 19, 20, 21, 22, 23, 24, 25, 26, 27, 28, 29, 30, 31, 32, 33, 34, 35, 36, 37, 38] (by decide) rfl) (free_of (wC := wX2 (aT 2) (va_up aT_2 0 (aT 0)) yT_2 gT_2 ++ (wTP (aT 0) aT_0 yT_0 gT_0 ++ (wX4 hP1 aP1 yP1 gP1 ++ (wX0 hP2 aP2 yP2 q_7.2.2.2)))) (isC := [9, 5, 12, 13, 14, 15, 16, 17, 18, 19, 20, 21, 22, 23, 24, 25, 26, 27, 28, 29, 30, 31, 32, 33, 34, 35, 36, 37, 38]) X rfl) hl.1 rfl rfl (Nat.le_of_ble_eq_true rfl) dX5_readAsked_69 ⟨Nat.le_of_ble_eq_true rfl, Nat.le_of_ble_eq_true rfl⟩ (fun t H1 locs1 ht hB hk hS => ?_)
        have X : Hx D (tX5 yT ++ (tTP yT_0 ++ (tX7 yT_1 ++ (tX6 yT_1_1 ++ (tX2 yT_2 ++ (tX8 yT_3 ++ (tX4 yP1 ++ (tX0 yP2)))))))) A s H1 locs1 (wX5 hT aT yT q_7.2.1 ++ (wTP (aT 0) aT_0 yT_0 gT_0 ++ (wX7 (aT 1) (va_up aT_1 0 (aT 0)) yT_1 q_7.2.2.1 ++ (wX6 ((va_up aT_1 0 (aT 0)) 1) aT_1_1 yT_1_1 gT_1_1 ++ (wX2 (aT 2) (va_up aT_2 0 (aT 0)) yT_2 q_13.2.1 ++ (wX8 (aT 3) aT_3 yT_3 gT_3 ++ (wX4 hP1 aP1 yP1 gP1 ++ (wX0 hP2 aP2 yP2 q_13.2.2)))))))) := Hx_after (isC := [9, 5, 12, 13, 14, 15, 16, 17, 18, 19, 20, 21, 22, 23, 24, 25, 26, 27, 28, 29, 30, 31, 32, 33, 34, 35, 36, 37, 38]) (isR := [0, 1, 2, 3, 4, 6, 7, 8, 10, 11]) (pm := [0, 1, 2, 3, 4, 11, 5, 6, 7, 10, 8, 9, 12, 13, 14, 15, 16, 17, 18, 19, 20, 21, 22, 23, 24, 25, 26, 27, 28, 29, 30, 31, 32, 33, 34, 35, 36, 37, 38]) (wr := wX5 hT aT yT q_7.2.1 ++ (wX7 (aT 1) (va_up aT_1 0 (aT 0)) yT_1 q_7.2.2.1 ++ (wX6 ((va_up aT_1 0 (aT 0)) 1) aT_1_1 yT_1_1 gT_1_1 ++ (wX8 (aT 3) aT_3 yT_3 gT_3)))) X ⟨rfl, rfl, by decide, by decide, rfl, by decide⟩ ht hB hk hS
        clear hk hS ht hB
        generalize H1 = H at X ⊢
        generalize locs1 = locs at X ⊢
        refine lv_goto (tgt := 76) hx hb dX5_readAsked_72 (by decide) ?_
        exact (k_X5_readAsked_76 l D hT aT yT aT_0 yT_0 aT_1 yT_1 aT_1_1 yT_1_1 aT_2 yT_2 aT_3 yT_3 hP1 aP1 yP1 hP2 aP2 yP2 n) C X (lv_sub hl [] rfl) hF
    · replace hF := iF c hF
      exact (k_X5_readAsked_41 l D hT aT yT aT_0 yT_0 aT_1 yT_1 aT_1_1 yT_1_1 aT_2 yT_2 aT_3 yT_3 hP1 aP1 yP1 hP2 aP2 yP2 n) C X (lv_sub hl [0] rfl) hF
