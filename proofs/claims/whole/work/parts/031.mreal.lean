def kdX12 (k : Nat) : Nat := ([0, 1, 0, 3, 0, 3, 0, 3, 0, 3, 3, 3, 3, 3, 3, 3, 3, 3, 3, 0, 0, 0, 0, 0, 0, 0, 0, 0, 3, 3, 3, 3, 3, 0, 0, 0, 0, 3, 3, 3, 3, 3, 3, 3, 3, 3, 3, 3, 3, 3, 3, 3, 3, 3, 3, 3, 3, 3, 0, 0, 0, 0, 0, 0, 0, 3, 3, 3, 3, 3, 3, 3, 3, 3, 3, 3, 3, 0, 3, 3, 3, 3, 3, 3, 3, 3, 3, 1, 0, 3, 3, 1, 3, 0, 1, 0, 0, 1, 3, 0, 3, 0, 3, 3, 3, 3, 3, 3, 3, 3, 3, 3, 3, 3] : List Nat).getD k 9
def ksX12 : List Nat := [3, 5, 7, 9, 10, 11, 12, 13, 14, 15, 16, 17, 18, 28, 29, 30, 31, 32, 37, 38, 39, 40, 41, 42, 43, 44, 45, 46, 47, 48, 49, 50, 51, 52, 53, 54, 55, 56, 57, 65, 66, 67, 68, 69, 70, 71, 72, 73, 74, 75, 76, 78, 79, 80, 81, 82, 83, 84, 85, 86, 89, 90, 92, 98, 100, 102, 103, 104, 105, 106, 107, 108, 109, 110, 111, 112, 113]
def akX12 (k : Nat) : Nat := ([9, 9, 9, 0, 9, 0, 9, 1, 9, 0, 0, 0, 1, 0, 0, 0, 0, 0, 1, 9, 9, 9, 9, 9, 9, 9, 9, 9, 0, 0, 0, 0, 0, 9, 9, 9, 9, 0, 0, 0, 0, 0, 0, 0, 0, 0, 0, 0, 0, 0, 0, 0, 0, 0, 0, 0, 1, 0, 9, 9, 9, 9, 9, 9, 9, 0, 0, 0, 0, 0, 0, 0, 0, 0, 0, 0, 0, 9, 0, 1, 1, 1, 1, 0, 0, 0, 0, 9, 9, 1, 0, 9, 1, 9, 9, 9, 9, 9, 0, 9, 0, 9, 0, 0, 1, 1, 1, 0, 0, 1, 0, 1, 0, 1] : List Nat).getD k 9
def lnX12 (k : Nat) : Nat := ([0, 0, 0, 3000, 0, 3001, 0, 26, 0, 3001, 3001, 3001, 3001, 3001, 8000, 8000, 8000, 8000, 8000, 0, 0, 0, 0, 0, 0, 0, 0, 0, 3001, 3001, 3001, 3001, 3001, 0, 0, 0, 0, 400, 400, 400, 400, 400, 400, 400, 400, 400, 400, 400, 400, 400, 400, 400, 400, 400, 400, 400, 1600, 400, 0, 0, 0, 0, 0, 0, 0, 600, 60, 40, 40, 40, 40, 40, 40, 40, 12, 12, 52, 0, 8, 192, 40, 40, 1280, 52, 52, 52, 12, 0, 0, 64, 64, 0, 400, 0, 0, 0, 0, 0, 100, 0, 30, 0, 4, 4, 160, 160, 5120, 624, 48, 4, 4, 256, 256, 4] : List Nat).getD k 0
def tkX12 (k : Nat) : FieldType := ([.int, .int, .int, .byte, .int, .byte, .int, .long, .int, .int, .int, .int, .long, .int, .int, .int, .int, .int, .long, .int, .int, .int, .int, .int, .int, .int, .int, .int, .int, .int, .int, .int, .int, .int, .int, .int, .int, .int, .int, .boolean, .int, .int, .int, .int, .int, .int, .int, .int, .int, .int, .int, .int, .int, .int, .int, .int, .long, .int, .int, .int, .int, .int, .int, .int, .int, .byte, .int, .int, .boolean, .int, .int, .int, .int, .int, .int, .int, .int, .int, .int, .long, .long, .long, .long, .int, .int, .int, .int, .int, .int, .long, .int, .int, .long, .int, .int, .int, .int, .int, .byte, .int, .byte, .int, .int, .int, .long, .long, .long, .int, .int, .long, .int, .long, .int, .long] : List FieldType).getD k .int
abbrev wX12 (h : Nat) (a : Nat → Nat) (y : Nat → ClassId) (g : Gs) : va_W := wG 12 114 kdX12 ksX12 akX12 lnX12 h a y g
abbrev tX12 (y : Nat → ClassId) : List (ClassId × FieldType) := tG ksX12 tkX12 y
theorem ndX12 : va_nd ksX12 = true := by decide
theorem wi_X12 : ∀ w ∈ u_ws RX12 TX12 114, w ∈ lw_all := wi_all (wi_eq rfl (wi_app (wi_ch tc_7 [68, 70, 72, 74, 76, 78, 80, 82, 84, 86, 88, 90, 92, 94, 96, 98, 100, 102, 104, 106, 108, 110, 112, 114, 116, 118, 120, 122, 124, 126, 128, 130, 132, 134, 136, 138, 140, 142, 144, 146, 148, 150, 152, 154, 156, 158, 160, 162, 164, 166, 168, 170, 172, 174, 176, 178, 180, 182, 184, 186, 188, 190, 192, 194, 196, 198, 200, 202, 204, 206, 208, 210, 212, 214, 216, 218, 220, 222, 224, 226, 228, 230, 232, 234, 236, 238]) (wi_ch tc_8 [0, 2, 4, 6, 8, 10, 12, 14, 16, 18, 20, 22, 24, 26, 28, 30, 32, 34, 36, 38, 40, 42, 44, 46, 48, 50, 52, 54])))
theorem q6_194 : Cond.fieldLink RX12 403 "TurningHallModel" "below" "Z" ∈ lw_all := lw_in (tc_6 (List.mem_of_getElem? (i := 194) rfl)) rfl
theorem q8_126 : Cond.constantLong RX12 416 (4503599627370495) ∈ lw_all := lw_in (tc_8 (List.mem_of_getElem? (i := 126) rfl)) rfl
theorem q6_195 : Cond.fieldLink RX12 408 "TurningHallModel" "digits" "J" ∈ lw_all := lw_in (tc_6 (List.mem_of_getElem? (i := 195) rfl)) rfl
theorem q6_196 : Cond.fieldLink RX12 413 "TurningHallModel" "power" "I" ∈ lw_all := lw_in (tc_6 (List.mem_of_getElem? (i := 196) rfl)) rfl
theorem q8_127 : Cond.constantLong RX12 418 (4503599627370496) ∈ lw_all := lw_in (tc_8 (List.mem_of_getElem? (i := 127) rfl)) rfl
theorem q8_124 : Cond.constantLong RX12 406 (8388607) ∈ lw_all := lw_in (tc_8 (List.mem_of_getElem? (i := 124) rfl)) rfl
theorem q8_125 : Cond.constantLong RX12 411 (8388608) ∈ lw_all := lw_in (tc_8 (List.mem_of_getElem? (i := 125) rfl)) rfl
theorem q8_120 : Cond.methodLink RX12 432 yX12_open ∈ lw_all := lw_in (tc_8 (List.mem_of_getElem? (i := 120) rfl)) rfl
theorem q8_122 : Cond.instanceMethod yX12_open ∈ lw_all := lw_in (tc_8 (List.mem_of_getElem? (i := 122) rfl)) rfl
theorem q0_72 : Cond.selects RX12 yX12_open yX12_open ∈ lw_all := lw_in (tc_0 (List.mem_of_getElem? (i := 72) rfl)) rfl
theorem q8_123 : Cond.code yX12_open cX12_open 5 none ∈ lw_all := lw_in (tc_8 (List.mem_of_getElem? (i := 123) rfl)) rfl
theorem q8_158 : Cond.methodLink RX12 438 yX12_wholeOf ∈ lw_all := lw_in (tc_8 (List.mem_of_getElem? (i := 158) rfl)) rfl
theorem q8_159 : Cond.static yX12_wholeOf ∈ lw_all := lw_in (tc_8 (List.mem_of_getElem? (i := 159) rfl)) rfl
theorem q8_160 : Cond.code yX12_wholeOf cX12_wholeOf 3 (some .long) ∈ lw_all := lw_in (tc_8 (List.mem_of_getElem? (i := 160) rfl)) rfl
theorem q8_104 : Cond.constantLong RX12 436 (2147483647) ∈ lw_all := lw_in (tc_8 (List.mem_of_getElem? (i := 104) rfl)) rfl
theorem q8_154 : Cond.methodLink RX12 473 yX12_towards ∈ lw_all := lw_in (tc_8 (List.mem_of_getElem? (i := 154) rfl)) rfl
theorem q8_156 : Cond.instanceMethod yX12_towards ∈ lw_all := lw_in (tc_8 (List.mem_of_getElem? (i := 156) rfl)) rfl
theorem q0_74 : Cond.selects RX12 yX12_towards yX12_towards ∈ lw_all := lw_in (tc_0 (List.mem_of_getElem? (i := 74) rfl)) rfl
theorem q8_157 : Cond.code yX12_towards cX12_towards 9 (some .long) ∈ lw_all := lw_in (tc_8 (List.mem_of_getElem? (i := 157) rfl)) rfl
theorem q8_143 : Cond.methodLink RX12 470 yX12_narrowed ∈ lw_all := lw_in (tc_8 (List.mem_of_getElem? (i := 143) rfl)) rfl
theorem q8_144 : Cond.static yX12_narrowed ∈ lw_all := lw_in (tc_8 (List.mem_of_getElem? (i := 144) rfl)) rfl
theorem q8_145 : Cond.code yX12_narrowed cX12_narrowed 3 (some .long) ∈ lw_all := lw_in (tc_8 (List.mem_of_getElem? (i := 145) rfl)) rfl
theorem q8_140 : Cond.methodLink RX12 466 yX12_fromWhole ∈ lw_all := lw_in (tc_8 (List.mem_of_getElem? (i := 140) rfl)) rfl
theorem q8_141 : Cond.static yX12_fromWhole ∈ lw_all := lw_in (tc_8 (List.mem_of_getElem? (i := 141) rfl)) rfl
theorem q8_142 : Cond.code yX12_fromWhole cX12_fromWhole 3 (some .long) ∈ lw_all := lw_in (tc_8 (List.mem_of_getElem? (i := 142) rfl)) rfl
theorem q9_89 : Cond.methodLink RX12 477 yX12_withoutSign ∈ lw_all := lw_in (tc_9 (List.mem_of_getElem? (i := 89) rfl)) rfl
theorem q9_90 : Cond.static yX12_withoutSign ∈ lw_all := lw_in (tc_9 (List.mem_of_getElem? (i := 90) rfl)) rfl
theorem q9_91 : Cond.code yX12_withoutSign cX12_withoutSign 2 (some .long) ∈ lw_all := lw_in (tc_9 (List.mem_of_getElem? (i := 91) rfl)) rfl
theorem q9_92 : Cond.methodLink RX12 481 yX12_remainder ∈ lw_all := lw_in (tc_9 (List.mem_of_getElem? (i := 92) rfl)) rfl
theorem q9_94 : Cond.instanceMethod yX12_remainder ∈ lw_all := lw_in (tc_9 (List.mem_of_getElem? (i := 94) rfl)) rfl
theorem q0_114 : Cond.selects RX12 yX12_remainder yX12_remainder ∈ lw_all := lw_in (tc_0 (List.mem_of_getElem? (i := 114) rfl)) rfl
theorem q9_95 : Cond.code yX12_remainder cX12_remainder 11 (some .long) ∈ lw_all := lw_in (tc_9 (List.mem_of_getElem? (i := 95) rfl)) rfl
theorem q6_198 : Cond.fieldLink RX12 13 "TurningHallModel" "size" "I" ∈ lw_all := lw_in (tc_6 (List.mem_of_getElem? (i := 198) rfl)) rfl
theorem q6_197 : Cond.fieldLink RX12 9 "TurningHallModel" "tape" "[B" ∈ lw_all := lw_in (tc_6 (List.mem_of_getElem? (i := 197) rfl)) rfl
theorem q8_136 : Cond.methodLink RX12 488 yX12_become ∈ lw_all := lw_in (tc_8 (List.mem_of_getElem? (i := 136) rfl)) rfl
theorem q8_138 : Cond.instanceMethod yX12_become ∈ lw_all := lw_in (tc_8 (List.mem_of_getElem? (i := 138) rfl)) rfl
theorem q0_73 : Cond.selects RX12 yX12_become yX12_become ∈ lw_all := lw_in (tc_0 (List.mem_of_getElem? (i := 73) rfl)) rfl
theorem q8_139 : Cond.code yX12_become cX12_become 5 (some .long) ∈ lw_all := lw_in (tc_8 (List.mem_of_getElem? (i := 139) rfl)) rfl
theorem q9_118 : Cond.methodLink RX12 491 ⟨"java/lang/Double", "longBitsToDouble", "(J)D"⟩ ∈ lw_all := lw_in (tc_9 (List.mem_of_getElem? (i := 118) rfl)) rfl
theorem q9_120 : Cond.native ⟨"java/lang/Double", "longBitsToDouble", "(J)D"⟩ ∈ lw_all := lw_in (tc_9 (List.mem_of_getElem? (i := 120) rfl)) rfl
theorem q9_119 : Cond.static ⟨"java/lang/Double", "longBitsToDouble", "(J)D"⟩ ∈ lw_all := lw_in (tc_9 (List.mem_of_getElem? (i := 119) rfl)) rfl
theorem q8_110 : Cond.methodLink RX12 497 yJxe99ae_doubleToLongBits_ccdee ∈ lw_all := lw_in (tc_8 (List.mem_of_getElem? (i := 110) rfl)) rfl
theorem q8_111 : Cond.static yJxe99ae_doubleToLongBits_ccdee ∈ lw_all := lw_in (tc_8 (List.mem_of_getElem? (i := 111) rfl)) rfl
theorem q8_112 : Cond.code yJxe99ae_doubleToLongBits_ccdee cJxe99ae_doubleToLongBits_ccdee 2 (some .long) ∈ lw_all := lw_in (tc_8 (List.mem_of_getElem? (i := 112) rfl)) rfl
/-! ### X12_open -/
theorem dX12_open_0 : decode cX12_open 0 = .ok (.aload_n 0, 1) := by decide +kernel
theorem dX12_open_1 : decode cX12_open 1 = .ok (.lload_n 1, 1) := by decide +kernel
theorem dX12_open_2 : decode cX12_open 2 = .ok (.lconst 0, 1) := by decide +kernel
theorem dX12_open_3 : decode cX12_open 3 = .ok (.lcmp, 1) := by decide +kernel
theorem dX12_open_4 : decode cX12_open 4 = .ok (.ifCond .ge 7, 3) := by decide +kernel
theorem dX12_open_7 : decode cX12_open 7 = .ok (.iconst 1, 1) := by decide +kernel
theorem dX12_open_8 : decode cX12_open 8 = .ok (.goto 4, 3) := by decide +kernel
theorem dX12_open_11 : decode cX12_open 11 = .ok (.iconst 0, 1) := by decide +kernel
theorem dX12_open_12 : decode cX12_open 12 = .ok (.putfield 403, 3) := by decide +kernel
theorem dX12_open_15 : decode cX12_open 15 = .ok (.iload_n 3, 1) := by decide +kernel
theorem dX12_open_16 : decode cX12_open 16 = .ok (.bipush 6, 2) := by decide +kernel
theorem dX12_open_18 : decode cX12_open 18 = .ok (.if_icmp .ne 62, 3) := by decide +kernel
theorem dX12_open_21 : decode cX12_open 21 = .ok (.lload_n 1, 1) := by decide +kernel
theorem dX12_open_22 : decode cX12_open 22 = .ok (.bipush 23, 2) := by decide +kernel
theorem dX12_open_24 : decode cX12_open 24 = .ok (.lshr, 1) := by decide +kernel
theorem dX12_open_25 : decode cX12_open 25 = .ok (.l2i, 1) := by decide +kernel
theorem dX12_open_26 : decode cX12_open 26 = .ok (.sipush 255, 3) := by decide +kernel
theorem dX12_open_29 : decode cX12_open 29 = .ok (.iand, 1) := by decide +kernel
theorem dX12_open_30 : decode cX12_open 30 = .ok (.istore 4, 2) := by decide +kernel
theorem dX12_open_32 : decode cX12_open 32 = .ok (.aload_n 0, 1) := by decide +kernel
theorem dX12_open_33 : decode cX12_open 33 = .ok (.lload_n 1, 1) := by decide +kernel
theorem dX12_open_34 : decode cX12_open 34 = .ok (.ldc2_w 406, 3) := by decide +kernel
theorem dX12_open_37 : decode cX12_open 37 = .ok (.land, 1) := by decide +kernel
theorem dX12_open_38 : decode cX12_open 38 = .ok (.putfield 408, 3) := by decide +kernel
theorem dX12_open_41 : decode cX12_open 41 = .ok (.iload 4, 2) := by decide +kernel
theorem dX12_open_43 : decode cX12_open 43 = .ok (.ifCond .le 15, 3) := by decide +kernel
theorem dX12_open_46 : decode cX12_open 46 = .ok (.aload_n 0, 1) := by decide +kernel
theorem dX12_open_47 : decode cX12_open 47 = .ok (.dup, 1) := by decide +kernel
theorem dX12_open_48 : decode cX12_open 48 = .ok (.getfield 408, 3) := by decide +kernel
theorem dX12_open_51 : decode cX12_open 51 = .ok (.ldc2_w 411, 3) := by decide +kernel
theorem dX12_open_54 : decode cX12_open 54 = .ok (.lor, 1) := by decide +kernel
theorem dX12_open_55 : decode cX12_open 55 = .ok (.putfield 408, 3) := by decide +kernel
theorem dX12_open_58 : decode cX12_open 58 = .ok (.aload_n 0, 1) := by decide +kernel
theorem dX12_open_59 : decode cX12_open 59 = .ok (.iload 4, 2) := by decide +kernel
theorem dX12_open_61 : decode cX12_open 61 = .ok (.ifCond .ne 9, 3) := by decide +kernel
theorem dX12_open_64 : decode cX12_open 64 = .ok (.sipush (-149), 3) := by decide +kernel
theorem dX12_open_67 : decode cX12_open 67 = .ok (.goto 9, 3) := by decide +kernel
theorem dX12_open_70 : decode cX12_open 70 = .ok (.iload 4, 2) := by decide +kernel
theorem dX12_open_72 : decode cX12_open 72 = .ok (.sipush 150, 3) := by decide +kernel
theorem dX12_open_75 : decode cX12_open 75 = .ok (.isub, 1) := by decide +kernel
theorem dX12_open_76 : decode cX12_open 76 = .ok (.putfield 413, 3) := by decide +kernel
theorem dX12_open_79 : decode cX12_open 79 = .ok (.return_, 1) := by decide +kernel
theorem dX12_open_80 : decode cX12_open 80 = .ok (.lload_n 1, 1) := by decide +kernel
theorem dX12_open_81 : decode cX12_open 81 = .ok (.bipush 52, 2) := by decide +kernel
theorem dX12_open_83 : decode cX12_open 83 = .ok (.lshr, 1) := by decide +kernel
theorem dX12_open_84 : decode cX12_open 84 = .ok (.l2i, 1) := by decide +kernel
theorem dX12_open_85 : decode cX12_open 85 = .ok (.sipush 2047, 3) := by decide +kernel
theorem dX12_open_88 : decode cX12_open 88 = .ok (.iand, 1) := by decide +kernel
theorem dX12_open_89 : decode cX12_open 89 = .ok (.istore 4, 2) := by decide +kernel
theorem dX12_open_91 : decode cX12_open 91 = .ok (.aload_n 0, 1) := by decide +kernel
theorem dX12_open_92 : decode cX12_open 92 = .ok (.lload_n 1, 1) := by decide +kernel
theorem dX12_open_93 : decode cX12_open 93 = .ok (.ldc2_w 416, 3) := by decide +kernel
theorem dX12_open_96 : decode cX12_open 96 = .ok (.land, 1) := by decide +kernel
theorem dX12_open_97 : decode cX12_open 97 = .ok (.putfield 408, 3) := by decide +kernel
theorem dX12_open_100 : decode cX12_open 100 = .ok (.iload 4, 2) := by decide +kernel
theorem dX12_open_102 : decode cX12_open 102 = .ok (.ifCond .le 15, 3) := by decide +kernel
theorem dX12_open_105 : decode cX12_open 105 = .ok (.aload_n 0, 1) := by decide +kernel
theorem dX12_open_106 : decode cX12_open 106 = .ok (.dup, 1) := by decide +kernel
theorem dX12_open_107 : decode cX12_open 107 = .ok (.getfield 408, 3) := by decide +kernel
theorem dX12_open_110 : decode cX12_open 110 = .ok (.ldc2_w 418, 3) := by decide +kernel
theorem dX12_open_113 : decode cX12_open 113 = .ok (.lor, 1) := by decide +kernel
theorem dX12_open_114 : decode cX12_open 114 = .ok (.putfield 408, 3) := by decide +kernel
theorem dX12_open_117 : decode cX12_open 117 = .ok (.aload_n 0, 1) := by decide +kernel
theorem dX12_open_118 : decode cX12_open 118 = .ok (.iload 4, 2) := by decide +kernel
theorem dX12_open_120 : decode cX12_open 120 = .ok (.ifCond .ne 9, 3) := by decide +kernel
theorem dX12_open_123 : decode cX12_open 123 = .ok (.sipush (-1074), 3) := by decide +kernel
theorem dX12_open_126 : decode cX12_open 126 = .ok (.goto 9, 3) := by decide +kernel
theorem dX12_open_129 : decode cX12_open 129 = .ok (.iload 4, 2) := by decide +kernel
theorem dX12_open_131 : decode cX12_open 131 = .ok (.sipush 1075, 3) := by decide +kernel
theorem dX12_open_134 : decode cX12_open 134 = .ok (.isub, 1) := by decide +kernel
theorem dX12_open_135 : decode cX12_open 135 = .ok (.putfield 413, 3) := by decide +kernel
theorem dX12_open_138 : decode cX12_open 138 = .ok (.return_, 1) := by decide +kernel
abbrev R_X12_open : Room := ({ frames := 0, cells := 0, slots := 0, locals := 0 } : Room)
def b_X12_open_135 (gT : Gs) (s0 : Int32) : Option (Gs) :=
  some (sI gT 2 s0)
def b_X12_open_117 (gT : Gs) (v4 : Int32) : Option (Gs) :=
  if v4 = 0 then (b_X12_open_135 gT (-1074 : Int32)) else (b_X12_open_135 gT (v4 - (1075 : Int32)))
def b_X12_open_76 (gT : Gs) (s0 : Int32) : Option (Gs) :=
  some (sI gT 2 s0)
def b_X12_open_58 (gT : Gs) (v4 : Int32) : Option (Gs) :=
  if v4 = 0 then (b_X12_open_76 gT (-149 : Int32)) else (b_X12_open_76 gT (v4 - (150 : Int32)))
def b_X12_open_12 (gT : Gs) (v1 : Int64) (v3 : Int32) (s0 : Int32) : Option (Gs) :=
  grd (zB s0) (if v3 = (6 : Int32) then (if (((v1 >>> ((23 : Int32).toInt64 &&& 63)).toInt32) &&& (255 : Int32)) ≤ 0 then (b_X12_open_58 (sL (sI gT 0 s0) 1 (v1 &&& (8388607 : Int64))) (((v1 >>> ((23 : Int32).toInt64 &&& 63)).toInt32) &&& (255 : Int32))) else (b_X12_open_58 (sL (sL (sI gT 0 s0) 1 (v1 &&& (8388607 : Int64))) 1 ((v1 &&& (8388607 : Int64)) ||| (8388608 : Int64))) (((v1 >>> ((23 : Int32).toInt64 &&& 63)).toInt32) &&& (255 : Int32)))) else (if (((v1 >>> ((52 : Int32).toInt64 &&& 63)).toInt32) &&& (2047 : Int32)) ≤ 0 then (b_X12_open_117 (sL (sI gT 0 s0) 1 (v1 &&& (4503599627370495 : Int64))) (((v1 >>> ((52 : Int32).toInt64 &&& 63)).toInt32) &&& (2047 : Int32))) else (b_X12_open_117 (sL (sL (sI gT 0 s0) 1 (v1 &&& (4503599627370495 : Int64))) 1 ((v1 &&& (4503599627370495 : Int64)) ||| (4503599627370496 : Int64))) (((v1 >>> ((52 : Int32).toInt64 &&& 63)).toInt32) &&& (2047 : Int32)))))
def f_X12_open (gT : Gs) (x0 : Int64) (x1 : Int32) : Option (Gs) :=
  if (0 : Int64) ≤ x0 then (b_X12_open_12 gT x0 x1 (0 : Int32)) else (b_X12_open_12 gT x0 x1 (1 : Int32))
def S_X12_open_135 (l : Launch) (D : Dx) (hT : Nat) (aT : Nat → Nat) (yT : Nat → ClassId) (fn : Gs → Int32 → Option (Gs)) : Prop :=
  ∀ {p : Program} {e : Env} {s : State} {m : MethodId} {args : Array Value} {below : List Frame} {meth : Method} {c : Code} {H : Heap} {locs : List Loc} {A : Nat → Prop} {ls : Array Slot} {gT : Gs} {s0 : Int32} {q : Gs}, Cx p s m args meth c cX12_open none 5 RX12 lw_all → Hx D (tX12 yT) A s H locs (wX12 hT aT yT gT) → lv_has ls 5 [] → fn gT s0 = some q → W p l e R_X12_open s m args below meth c H locs 0 0 (MQ below (QV D A (wX12 hT aT yT q)) args s 0 0 A) (F0 m 135 ls [.int s0, .ref hT])
def S_X12_open_117 (l : Launch) (D : Dx) (hT : Nat) (aT : Nat → Nat) (yT : Nat → ClassId) (fn : Gs → Int32 → Option (Gs)) : Prop :=
  ∀ {p : Program} {e : Env} {s : State} {m : MethodId} {args : Array Value} {below : List Frame} {meth : Method} {c : Code} {H : Heap} {locs : List Loc} {A : Nat → Prop} {ls : Array Slot} {gT : Gs} {v4 : Int32} {q : Gs}, Cx p s m args meth c cX12_open none 5 RX12 lw_all → Hx D (tX12 yT) A s H locs (wX12 hT aT yT gT) → lv_has ls 5 [(0, .ref hT), (4, .int v4)] → fn gT v4 = some q → W p l e R_X12_open s m args below meth c H locs 0 0 (MQ below (QV D A (wX12 hT aT yT q)) args s 0 0 A) (F0 m 117 ls [])
def S_X12_open_76 (l : Launch) (D : Dx) (hT : Nat) (aT : Nat → Nat) (yT : Nat → ClassId) (fn : Gs → Int32 → Option (Gs)) : Prop :=
  ∀ {p : Program} {e : Env} {s : State} {m : MethodId} {args : Array Value} {below : List Frame} {meth : Method} {c : Code} {H : Heap} {locs : List Loc} {A : Nat → Prop} {ls : Array Slot} {gT : Gs} {s0 : Int32} {q : Gs}, Cx p s m args meth c cX12_open none 5 RX12 lw_all → Hx D (tX12 yT) A s H locs (wX12 hT aT yT gT) → lv_has ls 5 [] → fn gT s0 = some q → W p l e R_X12_open s m args below meth c H locs 0 0 (MQ below (QV D A (wX12 hT aT yT q)) args s 0 0 A) (F0 m 76 ls [.int s0, .ref hT])
def S_X12_open_58 (l : Launch) (D : Dx) (hT : Nat) (aT : Nat → Nat) (yT : Nat → ClassId) (fn : Gs → Int32 → Option (Gs)) : Prop :=
  ∀ {p : Program} {e : Env} {s : State} {m : MethodId} {args : Array Value} {below : List Frame} {meth : Method} {c : Code} {H : Heap} {locs : List Loc} {A : Nat → Prop} {ls : Array Slot} {gT : Gs} {v4 : Int32} {q : Gs}, Cx p s m args meth c cX12_open none 5 RX12 lw_all → Hx D (tX12 yT) A s H locs (wX12 hT aT yT gT) → lv_has ls 5 [(0, .ref hT), (4, .int v4)] → fn gT v4 = some q → W p l e R_X12_open s m args below meth c H locs 0 0 (MQ below (QV D A (wX12 hT aT yT q)) args s 0 0 A) (F0 m 58 ls [])
def S_X12_open_12 (l : Launch) (D : Dx) (hT : Nat) (aT : Nat → Nat) (yT : Nat → ClassId) (fn : Gs → Int64 → Int32 → Int32 → Option (Gs)) : Prop :=
  ∀ {p : Program} {e : Env} {s : State} {m : MethodId} {args : Array Value} {below : List Frame} {meth : Method} {c : Code} {H : Heap} {locs : List Loc} {A : Nat → Prop} {ls : Array Slot} {gT : Gs} {v1 : Int64} {v3 : Int32} {s0 : Int32} {q : Gs}, Cx p s m args meth c cX12_open none 5 RX12 lw_all → Hx D (tX12 yT) A s H locs (wX12 hT aT yT gT) → lv_has ls 5 [(0, .ref hT), (1, .long v1), (3, .int v3)] → fn gT v1 v3 s0 = some q → W p l e R_X12_open s m args below meth c H locs 0 0 (MQ below (QV D A (wX12 hT aT yT q)) args s 0 0 A) (F0 m 12 ls [.int s0, .ref hT])
set_option maxHeartbeats 4000000 in
set_option maxRecDepth 100000 in
theorem k_X12_open_135 (l : Launch) (D : Dx) (hT : Nat) (aT : Nat → Nat) (yT : Nat → ClassId) : S_X12_open_135 l D hT aT yT (b_X12_open_135) := by
  intro p e s m args below meth c H locs A ls gT s0 q C X hl hF
  obtain ⟨hx, hb, hr, hml, hown, hts, hlk⟩ := id C
  unfold b_X12_open_135 at hF
  refine va_put (D := D.1) (ci := 12) (v := .int s0) (ty := .int) (C := RX12) (T := TX12) (N := 114) hx hb hts wi_X12 tyX12 tyX12_ok nmX12 hown X.1 X.2.1 X.2.2.1 X.2.2.2.1 0 rfl rfl 2 (by decide) (hts _ q6_196) (fun _ h9 => h9) rfl (by decide +kernel) rfl rfl (by rw [List.length_map, List.length_range]; decide) dX12_open_135 (fun H locs hP hD hS => ?_)
  have X : Hx D (tX12 yT) A s H locs (wX12 hT aT yT (sI gT 2 s0)) := Hx_set X (wG_sI (k := 2) rfl) hP hD hS
  have hq := Option.some.inj hF
  subst hq
  exact rt_v C X dX12_open_138
set_option maxHeartbeats 4000000 in
set_option maxRecDepth 100000 in
theorem k_X12_open_117 (l : Launch) (D : Dx) (hT : Nat) (aT : Nat → Nat) (yT : Nat → ClassId) : S_X12_open_117 l D hT aT yT (b_X12_open_117) := by
  intro p e s m args below meth c H locs A ls gT v4 q C X hl hF
  obtain ⟨hx, hb, hr, hml, hown, hts, hlk⟩ := id C
  unfold b_X12_open_117 at hF
  refine lv_aload_n hx hb dX12_open_117 rfl (lv_at hl 0 rfl) ?_
  refine lv_iload hx hb dX12_open_118 (lv_at hl 1 rfl) ?_
  refine lv_if_ne (tgt := 129) hx hb dX12_open_120 (by decide) (fun c => ?_) (fun c => ?_)
  · replace hF := iF c hF
    refine lv_iload hx hb dX12_open_129 (lv_at hl 1 rfl) ?_
    refine lv_sipush (v := (1075 : Int32)) hx hb dX12_open_131 (by decide) ?_
    refine lv_isub hx hb dX12_open_134 ?_
    exact (k_X12_open_135 l D hT aT yT) C X (lv_sub hl [] rfl) hF
  · replace hF := iT c hF
    refine lv_sipush (v := (-1074 : Int32)) hx hb dX12_open_123 (by decide) ?_
    refine lv_goto (tgt := 135) hx hb dX12_open_126 (by decide) ?_
    exact (k_X12_open_135 l D hT aT yT) C X (lv_sub hl [] rfl) hF
set_option maxHeartbeats 4000000 in
set_option maxRecDepth 100000 in
theorem k_X12_open_76 (l : Launch) (D : Dx) (hT : Nat) (aT : Nat → Nat) (yT : Nat → ClassId) : S_X12_open_76 l D hT aT yT (b_X12_open_76) := by
  intro p e s m args below meth c H locs A ls gT s0 q C X hl hF
  obtain ⟨hx, hb, hr, hml, hown, hts, hlk⟩ := id C
  unfold b_X12_open_76 at hF
  refine va_put (D := D.1) (ci := 12) (v := .int s0) (ty := .int) (C := RX12) (T := TX12) (N := 114) hx hb hts wi_X12 tyX12 tyX12_ok nmX12 hown X.1 X.2.1 X.2.2.1 X.2.2.2.1 0 rfl rfl 2 (by decide) (hts _ q6_196) (fun _ h9 => h9) rfl (by decide +kernel) rfl rfl (by rw [List.length_map, List.length_range]; decide) dX12_open_76 (fun H locs hP hD hS => ?_)
  have X : Hx D (tX12 yT) A s H locs (wX12 hT aT yT (sI gT 2 s0)) := Hx_set X (wG_sI (k := 2) rfl) hP hD hS
  have hq := Option.some.inj hF
  subst hq
  exact rt_v C X dX12_open_79
set_option maxHeartbeats 4000000 in
set_option maxRecDepth 100000 in
theorem k_X12_open_58 (l : Launch) (D : Dx) (hT : Nat) (aT : Nat → Nat) (yT : Nat → ClassId) : S_X12_open_58 l D hT aT yT (b_X12_open_58) := by
  intro p e s m args below meth c H locs A ls gT v4 q C X hl hF
  obtain ⟨hx, hb, hr, hml, hown, hts, hlk⟩ := id C
  unfold b_X12_open_58 at hF
  refine lv_aload_n hx hb dX12_open_58 rfl (lv_at hl 0 rfl) ?_
  refine lv_iload hx hb dX12_open_59 (lv_at hl 1 rfl) ?_
  refine lv_if_ne (tgt := 70) hx hb dX12_open_61 (by decide) (fun c => ?_) (fun c => ?_)
  · replace hF := iF c hF
    refine lv_iload hx hb dX12_open_70 (lv_at hl 1 rfl) ?_
    refine lv_sipush (v := (150 : Int32)) hx hb dX12_open_72 (by decide) ?_
    refine lv_isub hx hb dX12_open_75 ?_
    exact (k_X12_open_76 l D hT aT yT) C X (lv_sub hl [] rfl) hF
  · replace hF := iT c hF
    refine lv_sipush (v := (-149 : Int32)) hx hb dX12_open_64 (by decide) ?_
    refine lv_goto (tgt := 76) hx hb dX12_open_67 (by decide) ?_
    exact (k_X12_open_76 l D hT aT yT) C X (lv_sub hl [] rfl) hF
set_option maxHeartbeats 4000000 in
set_option maxRecDepth 100000 in
theorem k_X12_open_12 (l : Launch) (D : Dx) (hT : Nat) (aT : Nat → Nat) (yT : Nat → ClassId) : S_X12_open_12 l D hT aT yT (b_X12_open_12) := by
  intro p e s m args below meth c H locs A ls gT v1 v3 s0 q C X hl hF
  obtain ⟨hx, hb, hr, hml, hown, hts, hlk⟩ := id C
  unfold b_X12_open_12 at hF
  obtain ⟨h_1, hF⟩ := grd_some hF
  refine va_put (D := D.1) (ci := 12) (v := .int s0) (ty := .boolean) (C := RX12) (T := TX12) (N := 114) hx hb hts wi_X12 tyX12 tyX12_ok nmX12 hown X.1 X.2.1 X.2.2.1 X.2.2.2.1 0 rfl rfl 0 (by decide) (hts _ q6_194) (fun _ h9 => h9) rfl (by decide +kernel) (zB_n h_1) (zB_f h_1) (by rw [List.length_map, List.length_range]; decide) dX12_open_12 (fun H locs hP hD hS => ?_)
  have X : Hx D (tX12 yT) A s H locs (wX12 hT aT yT (sI gT 0 s0)) := Hx_set X (wG_sI (k := 0) rfl) hP hD hS
  refine lv_iload_n hx hb dX12_open_15 rfl (lv_at hl 2 rfl) ?_
  refine lv_bipush (v := (6 : Int32)) hx hb dX12_open_16 (by decide) ?_
  refine lv_icmp_ne (tgt := 80) hx hb dX12_open_18 (by decide) (fun c => ?_) (fun c => ?_)
  · replace hF := iF c hF
    refine lv_lload_n hx hb dX12_open_80 rfl (lv_at hl 1 rfl) ?_
    refine lv_bipush (v := (52 : Int32)) hx hb dX12_open_81 (by decide) ?_
    refine lv_lshr hx hb dX12_open_83 rfl ?_
    refine lv_l2i hx hb dX12_open_84 rfl ?_
    refine lv_sipush (v := (2047 : Int32)) hx hb dX12_open_85 (by decide) ?_
    refine lv_iand hx hb dX12_open_88 ?_
    refine lv_istore (lv' := [(4, .int (((v1 >>> ((52 : Int32).toInt64 &&& 63)).toInt32) &&& (2047 : Int32))), (0, .ref hT), (1, .long v1), (3, .int v3)]) hx hb dX12_open_89 hl (by decide) rfl (fun ls hl => ?_)
    refine lv_aload_n hx hb dX12_open_91 rfl (lv_at hl 1 rfl) ?_
    refine lv_lload_n hx hb dX12_open_92 rfl (lv_at hl 2 rfl) ?_
    refine lv_ldc2 hx hb hown (hts _ q8_126) dX12_open_93 ?_
    refine lv_land hx hb dX12_open_96 ?_
    refine va_put (D := D.1) (ci := 12) (v := .long (v1 &&& (4503599627370495 : Int64))) (ty := .long) (C := RX12) (T := TX12) (N := 114) hx hb hts wi_X12 tyX12 tyX12_ok nmX12 hown X.1 X.2.1 X.2.2.1 X.2.2.2.1 0 rfl rfl 1 (by decide) (hts _ q6_195) (fun _ h9 => h9) rfl (by decide +kernel) rfl rfl (by rw [List.length_map, List.length_range]; decide) dX12_open_97 (fun H locs hP hD hS => ?_)
    have X : Hx D (tX12 yT) A s H locs (wX12 hT aT yT (sL (sI gT 0 s0) 1 (v1 &&& (4503599627370495 : Int64)))) := Hx_set X (wG_sL (k := 1) rfl) hP hD hS
    refine lv_iload hx hb dX12_open_100 (lv_at hl 0 rfl) ?_
    refine lv_if_le (tgt := 117) hx hb dX12_open_102 (by decide) (fun c => ?_) (fun c => ?_)
    · replace hF := iT c hF
      exact (k_X12_open_117 l D hT aT yT) C X (lv_sub hl [1, 0] rfl) hF
    · replace hF := iF c hF
      refine lv_aload_n hx hb dX12_open_105 rfl (lv_at hl 1 rfl) ?_
      refine lv_dup hx hb dX12_open_106 rfl ?_
      refine va_get (D := D.1) (ci := 12) (v := .long (v1 &&& (4503599627370495 : Int64))) (C := RX12) (T := TX12) (N := 114) hx hb hts wi_X12 hown X.1 X.2.1 0 rfl rfl 1 (by decide) (hts _ q6_195) (fun _ h9 => h9) (fl_get (by decide)) dX12_open_107 ?_
      refine lv_ldc2 hx hb hown (hts _ q8_127) dX12_open_110 ?_
      refine lv_lor hx hb dX12_open_113 ?_
      refine va_put (D := D.1) (ci := 12) (v := .long ((v1 &&& (4503599627370495 : Int64)) ||| (4503599627370496 : Int64))) (ty := .long) (C := RX12) (T := TX12) (N := 114) hx hb hts wi_X12 tyX12 tyX12_ok nmX12 hown X.1 X.2.1 X.2.2.1 X.2.2.2.1 0 rfl rfl 1 (by decide) (hts _ q6_195) (fun _ h9 => h9) rfl (by decide +kernel) rfl rfl (by rw [List.length_map, List.length_range]; decide) dX12_open_114 (fun H locs hP hD hS => ?_)
      have X : Hx D (tX12 yT) A s H locs (wX12 hT aT yT (sL (sL (sI gT 0 s0) 1 (v1 &&& (4503599627370495 : Int64))) 1 ((v1 &&& (4503599627370495 : Int64)) ||| (4503599627370496 : Int64)))) := Hx_set X (wG_sL (k := 1) rfl) hP hD hS
      exact (k_X12_open_117 l D hT aT yT) C X (lv_sub hl [1, 0] rfl) hF
  · replace hF := iT c hF
    refine lv_lload_n hx hb dX12_open_21 rfl (lv_at hl 1 rfl) ?_
    refine lv_bipush (v := (23 : Int32)) hx hb dX12_open_22 (by decide) ?_
    refine lv_lshr hx hb dX12_open_24 rfl ?_
    refine lv_l2i hx hb dX12_open_25 rfl ?_
    refine lv_sipush (v := (255 : Int32)) hx hb dX12_open_26 (by decide) ?_
    refine lv_iand hx hb dX12_open_29 ?_
    refine lv_istore (lv' := [(4, .int (((v1 >>> ((23 : Int32).toInt64 &&& 63)).toInt32) &&& (255 : Int32))), (0, .ref hT), (1, .long v1), (3, .int v3)]) hx hb dX12_open_30 hl (by decide) rfl (fun ls hl => ?_)
    refine lv_aload_n hx hb dX12_open_32 rfl (lv_at hl 1 rfl) ?_
    refine lv_lload_n hx hb dX12_open_33 rfl (lv_at hl 2 rfl) ?_
    refine lv_ldc2 hx hb hown (hts _ q8_124) dX12_open_34 ?_
    refine lv_land hx hb dX12_open_37 ?_
    refine va_put (D := D.1) (ci := 12) (v := .long (v1 &&& (8388607 : Int64))) (ty := .long) (C := RX12) (T := TX12) (N := 114) hx hb hts wi_X12 tyX12 tyX12_ok nmX12 hown X.1 X.2.1 X.2.2.1 X.2.2.2.1 0 rfl rfl 1 (by decide) (hts _ q6_195) (fun _ h9 => h9) rfl (by decide +kernel) rfl rfl (by rw [List.length_map, List.length_range]; decide) dX12_open_38 (fun H locs hP hD hS => ?_)
    have X : Hx D (tX12 yT) A s H locs (wX12 hT aT yT (sL (sI gT 0 s0) 1 (v1 &&& (8388607 : Int64)))) := Hx_set X (wG_sL (k := 1) rfl) hP hD hS
    refine lv_iload hx hb dX12_open_41 (lv_at hl 0 rfl) ?_
    refine lv_if_le (tgt := 58) hx hb dX12_open_43 (by decide) (fun c => ?_) (fun c => ?_)
    · replace hF := iT c hF
      exact (k_X12_open_58 l D hT aT yT) C X (lv_sub hl [1, 0] rfl) hF
    · replace hF := iF c hF
      refine lv_aload_n hx hb dX12_open_46 rfl (lv_at hl 1 rfl) ?_
      refine lv_dup hx hb dX12_open_47 rfl ?_
      refine va_get (D := D.1) (ci := 12) (v := .long (v1 &&& (8388607 : Int64))) (C := RX12) (T := TX12) (N := 114) hx hb hts wi_X12 hown X.1 X.2.1 0 rfl rfl 1 (by decide) (hts _ q6_195) (fun _ h9 => h9) (fl_get (by decide)) dX12_open_48 ?_
      refine lv_ldc2 hx hb hown (hts _ q8_125) dX12_open_51 ?_
      refine lv_lor hx hb dX12_open_54 ?_
      refine va_put (D := D.1) (ci := 12) (v := .long ((v1 &&& (8388607 : Int64)) ||| (8388608 : Int64))) (ty := .long) (C := RX12) (T := TX12) (N := 114) hx hb hts wi_X12 tyX12 tyX12_ok nmX12 hown X.1 X.2.1 X.2.2.1 X.2.2.2.1 0 rfl rfl 1 (by decide) (hts _ q6_195) (fun _ h9 => h9) rfl (by decide +kernel) rfl rfl (by rw [List.length_map, List.length_range]; decide) dX12_open_55 (fun H locs hP hD hS => ?_)
      have X : Hx D (tX12 yT) A s H locs (wX12 hT aT yT (sL (sL (sI gT 0 s0) 1 (v1 &&& (8388607 : Int64))) 1 ((v1 &&& (8388607 : Int64)) ||| (8388608 : Int64)))) := Hx_set X (wG_sL (k := 1) rfl) hP hD hS
      exact (k_X12_open_58 l D hT aT yT) C X (lv_sub hl [1, 0] rfl) hF
set_option maxHeartbeats 4000000 in
set_option maxRecDepth 100000 in
theorem c_X12_open (l : Launch) (D : Dx) (hT : Nat) (aT : Nat → Nat) (yT : Nat → ClassId) (gT : Gs) (x0 : Int64) (x1 : Int32) (q : Gs) (hF : f_X12_open gT x0 x1 = some q) (sz : Nat) : Met l yX12_open (ws_ yX12_open cX12_open 5 none) R_X12_open (PC D (tX12 yT) [.ref hT, .long x0, .int x1] (wX12 hT aT yT gT) sz) (QV D (va_A (wX12 hT aT yT gT) sz) (wX12 hT aT yT q)) 0 0 (va_A (wX12 hT aT yT gT) sz) := by
  refine Met.ofW (cc := cX12_open) (maxL := 5) (ret := none) (by decide) rfl ?_
  intro p e s m args below meth c s₁ B hml hv
  obtain ⟨rfl, hsz, hP, hK, hD, hN⟩ := hv
  subst hsz
  have C : Cx p s m _ meth c cX12_open none 5 RX12 lw_all := Cx_of B hml
  have X := Hx_start hP hK hD hN
  obtain ⟨hx, hb, hr, -, hown, hts, hlk⟩ := id C
  generalize va_A (wX12 hT aT yT gT) s.heap.size = A at X ⊢
  have hl := lv_entry ([.ref hT, .long x0, .int x1]) (n := 5) (Nat.le_of_ble_eq_true rfl)
  rw [lg_entry_eq]
  generalize (lg_sl ([.ref hT, .long x0, .int x1]) ++ List.replicate (5 - (lg_sl ([.ref hT, .long x0, .int x1])).length) Slot.unset).toArray = ls at hl ⊢
  have hl : lv_has ls 5 [(0, .ref hT), (1, .long x0), (3, .int x1)] := hl
  unfold f_X12_open at hF
  refine lv_aload_n hx hb dX12_open_0 rfl (lv_at hl 0 rfl) ?_
  refine lv_lload_n hx hb dX12_open_1 rfl (lv_at hl 1 rfl) ?_
  refine lv_lconst (v := (0 : Int64)) hx hb dX12_open_2 (by decide) ?_
  refine W.lcmp hx hb dX12_open_3 ?_
  refine lv_if_ge (tgt := 11) hx hb dX12_open_4 (by decide) (fun c => ?_) (fun c => ?_)
  · have c := (lg_cmp_ge _ _).mp c
    replace hF := iT c hF
    refine lv_iconst (v := (0 : Int32)) hx hb dX12_open_11 (by decide) ?_
    exact (k_X12_open_12 l D hT aT yT) C X (lv_sub hl [0, 1, 2] rfl) hF
  · have c := fun h => c ((lg_cmp_ge _ _).mpr h)
    replace hF := iF c hF
    refine lv_iconst (v := (1 : Int32)) hx hb dX12_open_7 (by decide) ?_
    refine lv_goto (tgt := 12) hx hb dX12_open_8 (by decide) ?_
    exact (k_X12_open_12 l D hT aT yT) C X (lv_sub hl [0, 1, 2] rfl) hF

/-! ### X12_towards -/
theorem dX12_towards_0 : decode cX12_towards 0 = .ok (.aload_n 0, 1) := by decide +kernel
theorem dX12_towards_1 : decode cX12_towards 1 = .ok (.lload_n 1, 1) := by decide +kernel
theorem dX12_towards_2 : decode cX12_towards 2 = .ok (.iload_n 3, 1) := by decide +kernel
theorem dX12_towards_3 : decode cX12_towards 3 = .ok (.invokevirtual 432, 3) := by decide +kernel
theorem dX12_towards_6 : decode cX12_towards 6 = .ok (.iload 4, 2) := by decide +kernel
theorem dX12_towards_8 : decode cX12_towards 8 = .ok (.iconst 4, 1) := by decide +kernel
theorem dX12_towards_9 : decode cX12_towards 9 = .ok (.if_icmp .ne 9, 3) := by decide +kernel
theorem dX12_towards_12 : decode cX12_towards 12 = .ok (.ldc2_w 436, 3) := by decide +kernel
theorem dX12_towards_15 : decode cX12_towards 15 = .ok (.goto 6, 3) := by decide +kernel
theorem dX12_towards_18 : decode cX12_towards 18 = .ok (.ldc2_w 424, 3) := by decide +kernel
theorem dX12_towards_21 : decode cX12_towards 21 = .ok (.lstore 5, 2) := by decide +kernel
theorem dX12_towards_23 : decode cX12_towards 23 = .ok (.aload_n 0, 1) := by decide +kernel
theorem dX12_towards_24 : decode cX12_towards 24 = .ok (.getfield 408, 3) := by decide +kernel
theorem dX12_towards_27 : decode cX12_towards 27 = .ok (.lconst 0, 1) := by decide +kernel
theorem dX12_towards_28 : decode cX12_towards 28 = .ok (.lcmp, 1) := by decide +kernel
theorem dX12_towards_29 : decode cX12_towards 29 = .ok (.ifCond .eq 12, 3) := by decide +kernel
theorem dX12_towards_32 : decode cX12_towards 32 = .ok (.aload_n 0, 1) := by decide +kernel
theorem dX12_towards_33 : decode cX12_towards 33 = .ok (.getfield 413, 3) := by decide +kernel
theorem dX12_towards_36 : decode cX12_towards 36 = .ok (.bipush (-63), 2) := by decide +kernel
theorem dX12_towards_38 : decode cX12_towards 38 = .ok (.if_icmp .ge 5, 3) := by decide +kernel
theorem dX12_towards_41 : decode cX12_towards 41 = .ok (.lconst 0, 1) := by decide +kernel
theorem dX12_towards_42 : decode cX12_towards 42 = .ok (.lreturn, 1) := by decide +kernel
theorem dX12_towards_43 : decode cX12_towards 43 = .ok (.aload_n 0, 1) := by decide +kernel
theorem dX12_towards_44 : decode cX12_towards 44 = .ok (.getfield 413, 3) := by decide +kernel
theorem dX12_towards_47 : decode cX12_towards 47 = .ok (.ifCond .ge 51, 3) := by decide +kernel
theorem dX12_towards_50 : decode cX12_towards 50 = .ok (.aload_n 0, 1) := by decide +kernel
theorem dX12_towards_51 : decode cX12_towards 51 = .ok (.getfield 408, 3) := by decide +kernel
theorem dX12_towards_54 : decode cX12_towards 54 = .ok (.aload_n 0, 1) := by decide +kernel
theorem dX12_towards_55 : decode cX12_towards 55 = .ok (.getfield 413, 3) := by decide +kernel
theorem dX12_towards_58 : decode cX12_towards 58 = .ok (.ineg, 1) := by decide +kernel
theorem dX12_towards_59 : decode cX12_towards 59 = .ok (.lshr, 1) := by decide +kernel
theorem dX12_towards_60 : decode cX12_towards 60 = .ok (.lstore 7, 2) := by decide +kernel
theorem dX12_towards_62 : decode cX12_towards 62 = .ok (.lload 7, 2) := by decide +kernel
theorem dX12_towards_64 : decode cX12_towards 64 = .ok (.lload 5, 2) := by decide +kernel
theorem dX12_towards_66 : decode cX12_towards 66 = .ok (.lcmp, 1) := by decide +kernel
theorem dX12_towards_67 : decode cX12_towards 67 = .ok (.ifCond .le 21, 3) := by decide +kernel
theorem dX12_towards_70 : decode cX12_towards 70 = .ok (.aload_n 0, 1) := by decide +kernel
theorem dX12_towards_71 : decode cX12_towards 71 = .ok (.getfield 403, 3) := by decide +kernel
theorem dX12_towards_74 : decode cX12_towards 74 = .ok (.ifCond .eq 11, 3) := by decide +kernel
theorem dX12_towards_77 : decode cX12_towards 77 = .ok (.lload 5, 2) := by decide +kernel
theorem dX12_towards_79 : decode cX12_towards 79 = .ok (.lneg, 1) := by decide +kernel
theorem dX12_towards_80 : decode cX12_towards 80 = .ok (.lconst 1, 1) := by decide +kernel
theorem dX12_towards_81 : decode cX12_towards 81 = .ok (.lsub, 1) := by decide +kernel
theorem dX12_towards_82 : decode cX12_towards 82 = .ok (.goto 5, 3) := by decide +kernel
theorem dX12_towards_85 : decode cX12_towards 85 = .ok (.lload 5, 2) := by decide +kernel
theorem dX12_towards_87 : decode cX12_towards 87 = .ok (.lreturn, 1) := by decide +kernel
theorem dX12_towards_88 : decode cX12_towards 88 = .ok (.aload_n 0, 1) := by decide +kernel
theorem dX12_towards_89 : decode cX12_towards 89 = .ok (.getfield 403, 3) := by decide +kernel
theorem dX12_towards_92 : decode cX12_towards 92 = .ok (.lload 7, 2) := by decide +kernel
theorem dX12_towards_94 : decode cX12_towards 94 = .ok (.invokestatic 438, 3) := by decide +kernel
theorem dX12_towards_97 : decode cX12_towards 97 = .ok (.lreturn, 1) := by decide +kernel
theorem dX12_towards_98 : decode cX12_towards 98 = .ok (.aload_n 0, 1) := by decide +kernel
theorem dX12_towards_99 : decode cX12_towards 99 = .ok (.getfield 413, 3) := by decide +kernel
theorem dX12_towards_102 : decode cX12_towards 102 = .ok (.aload_n 0, 1) := by decide +kernel
theorem dX12_towards_103 : decode cX12_towards 103 = .ok (.getfield 408, 3) := by decide +kernel
theorem dX12_towards_106 : decode cX12_towards 106 = .ok (.invokestatic 420, 3) := by decide +kernel
theorem dX12_towards_109 : decode cX12_towards 109 = .ok (.iadd, 1) := by decide +kernel
theorem dX12_towards_110 : decode cX12_towards 110 = .ok (.bipush 63, 2) := by decide +kernel
theorem dX12_towards_112 : decode cX12_towards 112 = .ok (.if_icmp .le 21, 3) := by decide +kernel
theorem dX12_towards_115 : decode cX12_towards 115 = .ok (.aload_n 0, 1) := by decide +kernel
theorem dX12_towards_116 : decode cX12_towards 116 = .ok (.getfield 403, 3) := by decide +kernel
theorem dX12_towards_119 : decode cX12_towards 119 = .ok (.ifCond .eq 11, 3) := by decide +kernel
theorem dX12_towards_122 : decode cX12_towards 122 = .ok (.lload 5, 2) := by decide +kernel
theorem dX12_towards_124 : decode cX12_towards 124 = .ok (.lneg, 1) := by decide +kernel
theorem dX12_towards_125 : decode cX12_towards 125 = .ok (.lconst 1, 1) := by decide +kernel
theorem dX12_towards_126 : decode cX12_towards 126 = .ok (.lsub, 1) := by decide +kernel
theorem dX12_towards_127 : decode cX12_towards 127 = .ok (.goto 5, 3) := by decide +kernel
theorem dX12_towards_130 : decode cX12_towards 130 = .ok (.lload 5, 2) := by decide +kernel
theorem dX12_towards_132 : decode cX12_towards 132 = .ok (.lreturn, 1) := by decide +kernel
theorem dX12_towards_133 : decode cX12_towards 133 = .ok (.aload_n 0, 1) := by decide +kernel
theorem dX12_towards_134 : decode cX12_towards 134 = .ok (.getfield 408, 3) := by decide +kernel
theorem dX12_towards_137 : decode cX12_towards 137 = .ok (.aload_n 0, 1) := by decide +kernel
theorem dX12_towards_138 : decode cX12_towards 138 = .ok (.getfield 413, 3) := by decide +kernel
theorem dX12_towards_141 : decode cX12_towards 141 = .ok (.lshl, 1) := by decide +kernel
theorem dX12_towards_142 : decode cX12_towards 142 = .ok (.lstore 7, 2) := by decide +kernel
theorem dX12_towards_144 : decode cX12_towards 144 = .ok (.lload 7, 2) := by decide +kernel
theorem dX12_towards_146 : decode cX12_towards 146 = .ok (.lload 5, 2) := by decide +kernel
theorem dX12_towards_148 : decode cX12_towards 148 = .ok (.lcmp, 1) := by decide +kernel
theorem dX12_towards_149 : decode cX12_towards 149 = .ok (.ifCond .le 21, 3) := by decide +kernel
theorem dX12_towards_152 : decode cX12_towards 152 = .ok (.aload_n 0, 1) := by decide +kernel
theorem dX12_towards_153 : decode cX12_towards 153 = .ok (.getfield 403, 3) := by decide +kernel
theorem dX12_towards_156 : decode cX12_towards 156 = .ok (.ifCond .eq 11, 3) := by decide +kernel
theorem dX12_towards_159 : decode cX12_towards 159 = .ok (.lload 5, 2) := by decide +kernel
theorem dX12_towards_161 : decode cX12_towards 161 = .ok (.lneg, 1) := by decide +kernel
theorem dX12_towards_162 : decode cX12_towards 162 = .ok (.lconst 1, 1) := by decide +kernel
theorem dX12_towards_163 : decode cX12_towards 163 = .ok (.lsub, 1) := by decide +kernel
theorem dX12_towards_164 : decode cX12_towards 164 = .ok (.goto 5, 3) := by decide +kernel
theorem dX12_towards_167 : decode cX12_towards 167 = .ok (.lload 5, 2) := by decide +kernel
theorem dX12_towards_169 : decode cX12_towards 169 = .ok (.lreturn, 1) := by decide +kernel
theorem dX12_towards_170 : decode cX12_towards 170 = .ok (.aload_n 0, 1) := by decide +kernel
theorem dX12_towards_171 : decode cX12_towards 171 = .ok (.getfield 403, 3) := by decide +kernel
theorem dX12_towards_174 : decode cX12_towards 174 = .ok (.lload 7, 2) := by decide +kernel
theorem dX12_towards_176 : decode cX12_towards 176 = .ok (.invokestatic 438, 3) := by decide +kernel
theorem dX12_towards_179 : decode cX12_towards 179 = .ok (.lreturn, 1) := by decide +kernel
abbrev R_X12_towards : Room := ({ frames := 1, cells := 0, slots := 0, locals := 24 } : Room)
def b_X12_towards_21 (n : Nat) (gT : Gs) (s0 : Int64) : Option (Int64 × Gs) :=
  if (gL gT 1) = (0 : Int64) then (some ((0 : Int64), gT)) else (if (-63 : Int32) ≤ (gI gT 2) then (if 0 ≤ (gI gT 2) then (bnd (f_X12_lengthOf n (gL gT 1)) (fun q_3 => if ((gI gT 2) + q_3) ≤ (63 : Int32) then (if ((gL gT 1) <<< ((gI gT 2).toInt64 &&& 63)) ≤ s0 then (bnd (f_X12_wholeOf (gI gT 0) ((gL gT 1) <<< ((gI gT 2).toInt64 &&& 63))) (fun q_5 => some (q_5, gT))) else (if (gI gT 0) = 0 then (some (s0, gT)) else (some ((-s0) - (1 : Int64), gT)))) else (if (gI gT 0) = 0 then (some (s0, gT)) else (some ((-s0) - (1 : Int64), gT))))) else (if ((gL gT 1) >>> ((-(gI gT 2)).toInt64 &&& 63)) ≤ s0 then (bnd (f_X12_wholeOf (gI gT 0) ((gL gT 1) >>> ((-(gI gT 2)).toInt64 &&& 63))) (fun q_7 => some (q_7, gT))) else (if (gI gT 0) = 0 then (some (s0, gT)) else (some ((-s0) - (1 : Int64), gT))))) else (some ((0 : Int64), gT)))
def f_X12_towards (n : Nat) (gT : Gs) (x0 : Int64) (x1 : Int32) (x2 : Int32) : Option (Int64 × Gs) :=
  bnd (f_X12_open gT x0 x1) (fun q_1 => if x2 = (4 : Int32) then (b_X12_towards_21 n q_1 (2147483647 : Int64)) else (b_X12_towards_21 n q_1 (9223372036854775807 : Int64)))
def S_X12_towards_21 (l : Launch) (D : Dx) (hT : Nat) (aT : Nat → Nat) (yT : Nat → ClassId) (fn : Gs → Int64 → Option (Int64 × Gs)) : Prop :=
  ∀ {p : Program} {e : Env} {s : State} {m : MethodId} {args : Array Value} {below : List Frame} {meth : Method} {c : Code} {H : Heap} {locs : List Loc} {A : Nat → Prop} {ls : Array Slot} {gT : Gs} {s0 : Int64} {q : Int64 × Gs}, Cx p s m args meth c cX12_towards (some .long) 9 RX12 lw_all → Hx D (tX12 yT) A s H locs (wX12 hT aT yT gT) → lv_has ls 9 [(0, .ref hT)] → fn gT s0 = some q → W p l e R_X12_towards s m args below meth c H locs 0 0 (MQ below (QL D A (wX12 hT aT yT q.2) q.1) args s 0 0 A) (F0 m 21 ls [.long s0])
set_option maxHeartbeats 4000000 in
set_option maxRecDepth 100000 in
theorem k_X12_towards_21 (l : Launch) (D : Dx) (hT : Nat) (aT : Nat → Nat) (yT : Nat → ClassId) (n : Nat) : S_X12_towards_21 l D hT aT yT (b_X12_towards_21 n) := by
  intro p e s m args below meth c H locs A ls gT s0 q C X hl hF
  obtain ⟨hx, hb, hr, hml, hown, hts, hlk⟩ := id C
  unfold b_X12_towards_21 at hF
  refine lv_lstore (lv' := [(5, .long s0), (0, .ref hT)]) hx hb dX12_towards_21 hl (by decide) rfl (fun ls hl => ?_)
  refine lv_aload_n hx hb dX12_towards_23 rfl (lv_at hl 1 rfl) ?_
  refine va_get (D := D.1) (ci := 12) (v := .long (gL gT 1)) (C := RX12) (T := TX12) (N := 114) hx hb hts wi_X12 hown X.1 X.2.1 0 rfl rfl 1 (by decide) (hts _ q6_195) (fun _ h9 => h9) (fl_get (by decide)) dX12_towards_24 ?_
  refine lv_lconst (v := (0 : Int64)) hx hb dX12_towards_27 (by decide) ?_
  refine W.lcmp hx hb dX12_towards_28 ?_
  refine lv_if_eq (tgt := 41) hx hb dX12_towards_29 (by decide) (fun c => ?_) (fun c => ?_)
  · have c := (lg_cmp_eq _ _).mp c
    replace hF := iT c hF
    refine lv_lconst (v := (0 : Int64)) hx hb dX12_towards_41 (by decide) ?_
    have hq := Option.some.inj hF
    subst hq
    exact rt_l C X dX12_towards_42
  · have c := fun h => c ((lg_cmp_eq _ _).mpr h)
    replace hF := iF c hF
    refine lv_aload_n hx hb dX12_towards_32 rfl (lv_at hl 1 rfl) ?_
    refine va_get (D := D.1) (ci := 12) (v := .int (gI gT 2)) (C := RX12) (T := TX12) (N := 114) hx hb hts wi_X12 hown X.1 X.2.1 0 rfl rfl 2 (by decide) (hts _ q6_196) (fun _ h9 => h9) (fl_get (by decide)) dX12_towards_33 ?_
    refine lv_bipush (v := (-63 : Int32)) hx hb dX12_towards_36 (by decide) ?_
    refine lv_icmp_ge (tgt := 43) hx hb dX12_towards_38 (by decide) (fun c => ?_) (fun c => ?_)
    · replace hF := iT c hF
      refine lv_aload_n hx hb dX12_towards_43 rfl (lv_at hl 1 rfl) ?_
      refine va_get (D := D.1) (ci := 12) (v := .int (gI gT 2)) (C := RX12) (T := TX12) (N := 114) hx hb hts wi_X12 hown X.1 X.2.1 0 rfl rfl 2 (by decide) (hts _ q6_196) (fun _ h9 => h9) (fl_get (by decide)) dX12_towards_44 ?_
      refine lv_if_ge (tgt := 98) hx hb dX12_towards_47 (by decide) (fun c => ?_) (fun c => ?_)
      · replace hF := iT c hF
        refine lv_aload_n hx hb dX12_towards_98 rfl (lv_at hl 1 rfl) ?_
        refine va_get (D := D.1) (ci := 12) (v := .int (gI gT 2)) (C := RX12) (T := TX12) (N := 114) hx hb hts wi_X12 hown X.1 X.2.1 0 rfl rfl 2 (by decide) (hts _ q6_196) (fun _ h9 => h9) (fl_get (by decide)) dX12_towards_99 ?_
        refine lv_aload_n hx hb dX12_towards_102 rfl (lv_at hl 1 rfl) ?_
        refine va_get (D := D.1) (ci := 12) (v := .long (gL gT 1)) (C := RX12) (T := TX12) (N := 114) hx hb hts wi_X12 hown X.1 X.2.1 0 rfl rfl 1 (by decide) (hts _ q6_195) (fun _ h9 => h9) (fl_get (by decide)) dX12_towards_103 ?_
        obtain ⟨q_3, hc_4, hF⟩ := bnd_some hF
        refine cS_i (As := [.long (gL gT 1)]) (rest := [.int (gI gT 2)]) C X (c_X12_lengthOf l D  n (gL gT 1) q_3 hc_4 _) (va_cwS 1 hts (good_S q8_131 q8_132 q1_9 q8_133) rfl rfl rfl (by decide +kernel) ⟨Nat.le_of_ble_eq_true rfl, Nat.le_of_ble_eq_true rfl⟩) (eK X) eP (eD (A := A)) (eF X) hl.1 rfl rfl (Nat.le_of_ble_eq_true rfl) dX12_towards_106 ⟨Nat.le_of_ble_eq_true rfl, Nat.le_of_ble_eq_true rfl⟩ (fun t H1 locs1 ht hB hk hS => ?_)
        have X := Hx_after_none X hk hS
        clear hk hS ht hB
        generalize H1 = H at X ⊢
        generalize locs1 = locs at X ⊢
        refine lv_iadd hx hb dX12_towards_109 ?_
        refine lv_bipush (v := (63 : Int32)) hx hb dX12_towards_110 (by decide) ?_
        refine lv_icmp_le (tgt := 133) hx hb dX12_towards_112 (by decide) (fun c => ?_) (fun c => ?_)
        · replace hF := iT c hF
          refine lv_aload_n hx hb dX12_towards_133 rfl (lv_at hl 1 rfl) ?_
          refine va_get (D := D.1) (ci := 12) (v := .long (gL gT 1)) (C := RX12) (T := TX12) (N := 114) hx hb hts wi_X12 hown X.1 X.2.1 0 rfl rfl 1 (by decide) (hts _ q6_195) (fun _ h9 => h9) (fl_get (by decide)) dX12_towards_134 ?_
          refine lv_aload_n hx hb dX12_towards_137 rfl (lv_at hl 1 rfl) ?_
          refine va_get (D := D.1) (ci := 12) (v := .int (gI gT 2)) (C := RX12) (T := TX12) (N := 114) hx hb hts wi_X12 hown X.1 X.2.1 0 rfl rfl 2 (by decide) (hts _ q6_196) (fun _ h9 => h9) (fl_get (by decide)) dX12_towards_138 ?_
          refine lv_lshl hx hb dX12_towards_141 rfl ?_
          refine lv_lstore (lv' := [(7, .long ((gL gT 1) <<< ((gI gT 2).toInt64 &&& 63))), (5, .long s0), (0, .ref hT)]) hx hb dX12_towards_142 hl (by decide) rfl (fun ls hl => ?_)
          refine lv_lload hx hb dX12_towards_144 (lv_at hl 0 rfl) ?_
          refine lv_lload hx hb dX12_towards_146 (lv_at hl 1 rfl) ?_
          refine W.lcmp hx hb dX12_towards_148 ?_
          refine lv_if_le (tgt := 170) hx hb dX12_towards_149 (by decide) (fun c => ?_) (fun c => ?_)
          · have c := (lg_cmp_le _ _).mp c
            replace hF := iT c hF
            refine lv_aload_n hx hb dX12_towards_170 rfl (lv_at hl 2 rfl) ?_
            refine va_get (D := D.1) (ci := 12) (v := .int (gI gT 0)) (C := RX12) (T := TX12) (N := 114) hx hb hts wi_X12 hown X.1 X.2.1 0 rfl rfl 0 (by decide) (hts _ q6_194) (fun _ h9 => h9) (fl_get (by decide)) dX12_towards_171 ?_
            refine lv_lload hx hb dX12_towards_174 (lv_at hl 0 rfl) ?_
            obtain ⟨q_5, hc_6, hF⟩ := bnd_some hF
            refine cS_l (As := [.int (gI gT 0), .long ((gL gT 1) <<< ((gI gT 2).toInt64 &&& 63))]) (rest := []) C X (c_X12_wholeOf l D  (gI gT 0) ((gL gT 1) <<< ((gI gT 2).toInt64 &&& 63)) q_5 hc_6 _) (va_cwS 2 hts (good_S q8_158 q8_159 q1_9 q8_160) rfl rfl rfl (by decide +kernel) ⟨Nat.le_of_ble_eq_true rfl, Nat.le_of_ble_eq_true rfl⟩) (eK X) eP (eD (A := A)) (eF X) hl.1 rfl rfl (Nat.le_of_ble_eq_true rfl) dX12_towards_176 ⟨Nat.le_of_ble_eq_true rfl, Nat.le_of_ble_eq_true rfl⟩ (fun t H1 locs1 ht hB hk hS => ?_)
            have X := Hx_after_none X hk hS
            clear hk hS ht hB
            generalize H1 = H at X ⊢
            generalize locs1 = locs at X ⊢
            have hq := Option.some.inj hF
            subst hq
            exact rt_l C X dX12_towards_179
          · have c := fun h => c ((lg_cmp_le _ _).mpr h)
            replace hF := iF c hF
            refine lv_aload_n hx hb dX12_towards_152 rfl (lv_at hl 2 rfl) ?_
            refine va_get (D := D.1) (ci := 12) (v := .int (gI gT 0)) (C := RX12) (T := TX12) (N := 114) hx hb hts wi_X12 hown X.1 X.2.1 0 rfl rfl 0 (by decide) (hts _ q6_194) (fun _ h9 => h9) (fl_get (by decide)) dX12_towards_153 ?_
            refine lv_if_eq (tgt := 167) hx hb dX12_towards_156 (by decide) (fun c => ?_) (fun c => ?_)
            · replace hF := iT c hF
              refine lv_lload hx hb dX12_towards_167 (lv_at hl 1 rfl) ?_
              have hq := Option.some.inj hF
              subst hq
              exact rt_l C X dX12_towards_169
            · replace hF := iF c hF
              refine lv_lload hx hb dX12_towards_159 (lv_at hl 1 rfl) ?_
              refine lv_lneg hx hb dX12_towards_161 ?_
              refine lv_lconst (v := (1 : Int64)) hx hb dX12_towards_162 (by decide) ?_
              refine lv_lsub hx hb dX12_towards_163 ?_
              refine lv_goto (tgt := 169) hx hb dX12_towards_164 (by decide) ?_
              have hq := Option.some.inj hF
              subst hq
              exact rt_l C X dX12_towards_169
        · replace hF := iF c hF
          refine lv_aload_n hx hb dX12_towards_115 rfl (lv_at hl 1 rfl) ?_
          refine va_get (D := D.1) (ci := 12) (v := .int (gI gT 0)) (C := RX12) (T := TX12) (N := 114) hx hb hts wi_X12 hown X.1 X.2.1 0 rfl rfl 0 (by decide) (hts _ q6_194) (fun _ h9 => h9) (fl_get (by decide)) dX12_towards_116 ?_
          refine lv_if_eq (tgt := 130) hx hb dX12_towards_119 (by decide) (fun c => ?_) (fun c => ?_)
          · replace hF := iT c hF
            refine lv_lload hx hb dX12_towards_130 (lv_at hl 0 rfl) ?_
            have hq := Option.some.inj hF
            subst hq
            exact rt_l C X dX12_towards_132
          · replace hF := iF c hF
            refine lv_lload hx hb dX12_towards_122 (lv_at hl 0 rfl) ?_
            refine lv_lneg hx hb dX12_towards_124 ?_
            refine lv_lconst (v := (1 : Int64)) hx hb dX12_towards_125 (by decide) ?_
            refine lv_lsub hx hb dX12_towards_126 ?_
            refine lv_goto (tgt := 132) hx hb dX12_towards_127 (by decide) ?_
            have hq := Option.some.inj hF
            subst hq
            exact rt_l C X dX12_towards_132
      · replace hF := iF c hF
        refine lv_aload_n hx hb dX12_towards_50 rfl (lv_at hl 1 rfl) ?_
        refine va_get (D := D.1) (ci := 12) (v := .long (gL gT 1)) (C := RX12) (T := TX12) (N := 114) hx hb hts wi_X12 hown X.1 X.2.1 0 rfl rfl 1 (by decide) (hts _ q6_195) (fun _ h9 => h9) (fl_get (by decide)) dX12_towards_51 ?_
        refine lv_aload_n hx hb dX12_towards_54 rfl (lv_at hl 1 rfl) ?_
        refine va_get (D := D.1) (ci := 12) (v := .int (gI gT 2)) (C := RX12) (T := TX12) (N := 114) hx hb hts wi_X12 hown X.1 X.2.1 0 rfl rfl 2 (by decide) (hts _ q6_196) (fun _ h9 => h9) (fl_get (by decide)) dX12_towards_55 ?_
        refine lv_ineg hx hb dX12_towards_58 ?_
        refine lv_lshr hx hb dX12_towards_59 rfl ?_
        refine lv_lstore (lv' := [(7, .long ((gL gT 1) >>> ((-(gI gT 2)).toInt64 &&& 63))), (5, .long s0), (0, .ref hT)]) hx hb dX12_towards_60 hl (by decide) rfl (fun ls hl => ?_)
        refine lv_lload hx hb dX12_towards_62 (lv_at hl 0 rfl) ?_
        refine lv_lload hx hb dX12_towards_64 (lv_at hl 1 rfl) ?_
        refine W.lcmp hx hb dX12_towards_66 ?_
        refine lv_if_le (tgt := 88) hx hb dX12_towards_67 (by decide) (fun c => ?_) (fun c => ?_)
        · have c := (lg_cmp_le _ _).mp c
          replace hF := iT c hF
          refine lv_aload_n hx hb dX12_towards_88 rfl (lv_at hl 2 rfl) ?_
          refine va_get (D := D.1) (ci := 12) (v := .int (gI gT 0)) (C := RX12) (T := TX12) (N := 114) hx hb hts wi_X12 hown X.1 X.2.1 0 rfl rfl 0 (by decide) (hts _ q6_194) (fun _ h9 => h9) (fl_get (by decide)) dX12_towards_89 ?_
          refine lv_lload hx hb dX12_towards_92 (lv_at hl 0 rfl) ?_
          obtain ⟨q_7, hc_8, hF⟩ := bnd_some hF
          refine cS_l (As := [.int (gI gT 0), .long ((gL gT 1) >>> ((-(gI gT 2)).toInt64 &&& 63))]) (rest := []) C X (c_X12_wholeOf l D  (gI gT 0) ((gL gT 1) >>> ((-(gI gT 2)).toInt64 &&& 63)) q_7 hc_8 _) (va_cwS 2 hts (good_S q8_158 q8_159 q1_9 q8_160) rfl rfl rfl (by decide +kernel) ⟨Nat.le_of_ble_eq_true rfl, Nat.le_of_ble_eq_true rfl⟩) (eK X) eP (eD (A := A)) (eF X) hl.1 rfl rfl (Nat.le_of_ble_eq_true rfl) dX12_towards_94 ⟨Nat.le_of_ble_eq_true rfl, Nat.le_of_ble_eq_true rfl⟩ (fun t H1 locs1 ht hB hk hS => ?_)
          have X := Hx_after_none X hk hS
          clear hk hS ht hB
          generalize H1 = H at X ⊢
          generalize locs1 = locs at X ⊢
          have hq := Option.some.inj hF
          subst hq
          exact rt_l C X dX12_towards_97
        · have c := fun h => c ((lg_cmp_le _ _).mpr h)
          replace hF := iF c hF
          refine lv_aload_n hx hb dX12_towards_70 rfl (lv_at hl 2 rfl) ?_
          refine va_get (D := D.1) (ci := 12) (v := .int (gI gT 0)) (C := RX12) (T := TX12) (N := 114) hx hb hts wi_X12 hown X.1 X.2.1 0 rfl rfl 0 (by decide) (hts _ q6_194) (fun _ h9 => h9) (fl_get (by decide)) dX12_towards_71 ?_
          refine lv_if_eq (tgt := 85) hx hb dX12_towards_74 (by decide) (fun c => ?_) (fun c => ?_)
          · replace hF := iT c hF
            refine lv_lload hx hb dX12_towards_85 (lv_at hl 1 rfl) ?_
            have hq := Option.some.inj hF
            subst hq
            exact rt_l C X dX12_towards_87
          · replace hF := iF c hF
            refine lv_lload hx hb dX12_towards_77 (lv_at hl 1 rfl) ?_
            refine lv_lneg hx hb dX12_towards_79 ?_
            refine lv_lconst (v := (1 : Int64)) hx hb dX12_towards_80 (by decide) ?_
            refine lv_lsub hx hb dX12_towards_81 ?_
            refine lv_goto (tgt := 87) hx hb dX12_towards_82 (by decide) ?_
            have hq := Option.some.inj hF
            subst hq
            exact rt_l C X dX12_towards_87
    · replace hF := iF c hF
      refine lv_lconst (v := (0 : Int64)) hx hb dX12_towards_41 (by decide) ?_
      have hq := Option.some.inj hF
      subst hq
      exact rt_l C X dX12_towards_42
set_option maxHeartbeats 4000000 in
set_option maxRecDepth 100000 in
theorem c_X12_towards (l : Launch) (D : Dx) (hT : Nat) (aT : Nat → Nat) (yT : Nat → ClassId) (n : Nat) (gT : Gs) (x0 : Int64) (x1 : Int32) (x2 : Int32) (q : Int64 × Gs) (hF : f_X12_towards n gT x0 x1 x2 = some q) (sz : Nat) : Met l yX12_towards (ws_ yX12_towards cX12_towards 9 (some .long)) R_X12_towards (PC D (tX12 yT) [.ref hT, .long x0, .int x1, .int x2] (wX12 hT aT yT gT) sz) (QL D (va_A (wX12 hT aT yT gT) sz) (wX12 hT aT yT q.2) q.1) 0 0 (va_A (wX12 hT aT yT gT) sz) := by
  refine Met.ofW (cc := cX12_towards) (maxL := 9) (ret := (some .long)) (by decide) rfl ?_
  intro p e s m args below meth c s₁ B hml hv
  obtain ⟨rfl, hsz, hP, hK, hD, hN⟩ := hv
  subst hsz
  have C : Cx p s m _ meth c cX12_towards (some .long) 9 RX12 lw_all := Cx_of B hml
  have X := Hx_start hP hK hD hN
  obtain ⟨hx, hb, hr, -, hown, hts, hlk⟩ := id C
  generalize va_A (wX12 hT aT yT gT) s.heap.size = A at X ⊢
  have hl := lv_entry ([.ref hT, .long x0, .int x1, .int x2]) (n := 9) (Nat.le_of_ble_eq_true rfl)
  rw [lg_entry_eq]
  generalize (lg_sl ([.ref hT, .long x0, .int x1, .int x2]) ++ List.replicate (9 - (lg_sl ([.ref hT, .long x0, .int x1, .int x2])).length) Slot.unset).toArray = ls at hl ⊢
  have hl : lv_has ls 9 [(0, .ref hT), (1, .long x0), (3, .int x1), (4, .int x2)] := hl
  unfold f_X12_towards at hF
  refine lv_aload_n hx hb dX12_towards_0 rfl (lv_at hl 0 rfl) ?_
  refine lv_lload_n hx hb dX12_towards_1 rfl (lv_at hl 1 rfl) ?_
  refine lv_iload_n hx hb dX12_towards_2 rfl (lv_at hl 2 rfl) ?_
  obtain ⟨q_1, hc_2, hF⟩ := bnd_some hF
  refine cV_v (As := [.long x0, .int x1]) (rest := []) C X (c_X12_open l D hT aT yT gT x0 x1 q_1 hc_2 _) (cwV 2 hts (good_V q8_120 q8_122 q0_72 q1_9 q8_123) rfl rfl rfl (by decide +kernel) ⟨Nat.le_of_ble_eq_true rfl, Nat.le_of_ble_eq_true rfl⟩) (va_recv X.1 X.2.1 (ci := 12) (q0 := 0) rfl rfl) X.1 X.2.1 X.2.2.1 (free_all X) hl.1 rfl rfl (Nat.le_of_ble_eq_true rfl) dX12_towards_3 ⟨Nat.le_of_ble_eq_true rfl, Nat.le_of_ble_eq_true rfl⟩ (fun t H1 locs1 ht hB hk hS => ?_)
  have X : Hx D (tX12 yT) A s H1 locs1 (wX12 hT aT yT q_1) := Hx_after_all X ht hB hS
  clear hk hS ht hB
  generalize H1 = H at X ⊢
  generalize locs1 = locs at X ⊢
  refine lv_iload hx hb dX12_towards_6 (lv_at hl 3 rfl) ?_
  refine lv_iconst (v := (4 : Int32)) hx hb dX12_towards_8 (by decide) ?_
  refine lv_icmp_ne (tgt := 18) hx hb dX12_towards_9 (by decide) (fun c => ?_) (fun c => ?_)
  · replace hF := iF c hF
    refine lv_ldc2 hx hb hown (hts _ q8_99) dX12_towards_18 ?_
    exact (k_X12_towards_21 l D hT aT yT n) C X (lv_sub hl [0] rfl) hF
  · replace hF := iT c hF
    refine lv_ldc2 hx hb hown (hts _ q8_104) dX12_towards_12 ?_
    refine lv_goto (tgt := 21) hx hb dX12_towards_15 (by decide) ?_
    exact (k_X12_towards_21 l D hT aT yT n) C X (lv_sub hl [0] rfl) hF

/-! ### X12_become -/
theorem dX12_become_0 : decode cX12_become 0 = .ok (.iload_n 3, 1) := by decide +kernel
theorem dX12_become_1 : decode cX12_become 1 = .ok (.iload 4, 2) := by decide +kernel
theorem dX12_become_3 : decode cX12_become 3 = .ok (.if_icmp .ne 5, 3) := by decide +kernel
theorem dX12_become_6 : decode cX12_become 6 = .ok (.lload_n 1, 1) := by decide +kernel
theorem dX12_become_7 : decode cX12_become 7 = .ok (.lreturn, 1) := by decide +kernel
theorem dX12_become_8 : decode cX12_become 8 = .ok (.iload 4, 2) := by decide +kernel
theorem dX12_become_10 : decode cX12_become 10 = .ok (.invokestatic 462, 3) := by decide +kernel
theorem dX12_become_13 : decode cX12_become 13 = .ok (.ifCond .eq 41, 3) := by decide +kernel
theorem dX12_become_16 : decode cX12_become 16 = .ok (.iload_n 3, 1) := by decide +kernel
theorem dX12_become_17 : decode cX12_become 17 = .ok (.invokestatic 462, 3) := by decide +kernel
theorem dX12_become_20 : decode cX12_become 20 = .ok (.ifCond .ne 10, 3) := by decide +kernel
theorem dX12_become_23 : decode cX12_become 23 = .ok (.lload_n 1, 1) := by decide +kernel
theorem dX12_become_24 : decode cX12_become 24 = .ok (.iload 4, 2) := by decide +kernel
theorem dX12_become_26 : decode cX12_become 26 = .ok (.invokestatic 466, 3) := by decide +kernel
theorem dX12_become_29 : decode cX12_become 29 = .ok (.lreturn, 1) := by decide +kernel
theorem dX12_become_30 : decode cX12_become 30 = .ok (.aload_n 0, 1) := by decide +kernel
theorem dX12_become_31 : decode cX12_become 31 = .ok (.lload_n 1, 1) := by decide +kernel
theorem dX12_become_32 : decode cX12_become 32 = .ok (.iload_n 3, 1) := by decide +kernel
theorem dX12_become_33 : decode cX12_become 33 = .ok (.invokevirtual 432, 3) := by decide +kernel
theorem dX12_become_36 : decode cX12_become 36 = .ok (.aload_n 0, 1) := by decide +kernel
theorem dX12_become_37 : decode cX12_become 37 = .ok (.getfield 403, 3) := by decide +kernel
theorem dX12_become_40 : decode cX12_become 40 = .ok (.aload_n 0, 1) := by decide +kernel
theorem dX12_become_41 : decode cX12_become 41 = .ok (.getfield 408, 3) := by decide +kernel
theorem dX12_become_44 : decode cX12_become 44 = .ok (.aload_n 0, 1) := by decide +kernel
theorem dX12_become_45 : decode cX12_become 45 = .ok (.getfield 413, 3) := by decide +kernel
theorem dX12_become_48 : decode cX12_become 48 = .ok (.iload 4, 2) := by decide +kernel
theorem dX12_become_50 : decode cX12_become 50 = .ok (.invokestatic 458, 3) := by decide +kernel
theorem dX12_become_53 : decode cX12_become 53 = .ok (.lreturn, 1) := by decide +kernel
theorem dX12_become_54 : decode cX12_become 54 = .ok (.iload_n 3, 1) := by decide +kernel
theorem dX12_become_55 : decode cX12_become 55 = .ok (.invokestatic 462, 3) := by decide +kernel
theorem dX12_become_58 : decode cX12_become 58 = .ok (.ifCond .ne 10, 3) := by decide +kernel
theorem dX12_become_61 : decode cX12_become 61 = .ok (.lload_n 1, 1) := by decide +kernel
theorem dX12_become_62 : decode cX12_become 62 = .ok (.iload 4, 2) := by decide +kernel
theorem dX12_become_64 : decode cX12_become 64 = .ok (.invokestatic 470, 3) := by decide +kernel
theorem dX12_become_67 : decode cX12_become 67 = .ok (.lreturn, 1) := by decide +kernel
theorem dX12_become_68 : decode cX12_become 68 = .ok (.iload 4, 2) := by decide +kernel
theorem dX12_become_70 : decode cX12_become 70 = .ok (.iconst 5, 1) := by decide +kernel
theorem dX12_become_71 : decode cX12_become 71 = .ok (.if_icmp .ne 11, 3) := by decide +kernel
theorem dX12_become_74 : decode cX12_become 74 = .ok (.aload_n 0, 1) := by decide +kernel
theorem dX12_become_75 : decode cX12_become 75 = .ok (.lload_n 1, 1) := by decide +kernel
theorem dX12_become_76 : decode cX12_become 76 = .ok (.iload_n 3, 1) := by decide +kernel
theorem dX12_become_77 : decode cX12_become 77 = .ok (.iconst 5, 1) := by decide +kernel
theorem dX12_become_78 : decode cX12_become 78 = .ok (.invokevirtual 473, 3) := by decide +kernel
theorem dX12_become_81 : decode cX12_become 81 = .ok (.lreturn, 1) := by decide +kernel
theorem dX12_become_82 : decode cX12_become 82 = .ok (.aload_n 0, 1) := by decide +kernel
theorem dX12_become_83 : decode cX12_become 83 = .ok (.lload_n 1, 1) := by decide +kernel
theorem dX12_become_84 : decode cX12_become 84 = .ok (.iload_n 3, 1) := by decide +kernel
theorem dX12_become_85 : decode cX12_become 85 = .ok (.iconst 4, 1) := by decide +kernel
theorem dX12_become_86 : decode cX12_become 86 = .ok (.invokevirtual 473, 3) := by decide +kernel
theorem dX12_become_89 : decode cX12_become 89 = .ok (.iload 4, 2) := by decide +kernel
theorem dX12_become_91 : decode cX12_become 91 = .ok (.invokestatic 470, 3) := by decide +kernel
theorem dX12_become_94 : decode cX12_become 94 = .ok (.lreturn, 1) := by decide +kernel
abbrev R_X12_become : Room := ({ frames := 3, cells := 0, slots := 0, locals := 80 } : Room)
def f_X12_become (n : Nat) (gT : Gs) (x0 : Int64) (x1 : Int32) (x2 : Int32) : Option (Int64 × Gs) :=
  if x1 = x2 then (some (x0, gT)) else (bnd (f_X12_isReal x2) (fun q_1 => if q_1 = 0 then (bnd (f_X12_isReal x1) (fun q_3 => if q_3 = 0 then (bnd (f_X12_narrowed x0 x2) (fun q_11 => some (q_11, gT))) else (if x2 = (5 : Int32) then (bnd (f_X12_towards n gT x0 x1 (5 : Int32)) (fun q_9 => some (q_9.1, q_9.2))) else (bnd (f_X12_towards n gT x0 x1 (4 : Int32)) (fun q_5 => bnd (f_X12_narrowed q_5.1 x2) (fun q_7 => some (q_7, q_5.2))))))) else (bnd (f_X12_isReal x1) (fun q_13 => if q_13 = 0 then (bnd (f_X12_fromWhole n x0 x2) (fun q_19 => some (q_19, gT))) else (bnd (f_X12_open gT x0 x1) (fun q_15 => bnd (f_X12_made n (gI q_15 0) (gL q_15 1) (gI q_15 2) x2) (fun q_17 => some (q_17, q_15))))))))
set_option maxHeartbeats 4000000 in
set_option maxRecDepth 100000 in
theorem c_X12_become (l : Launch) (D : Dx) (hT : Nat) (aT : Nat → Nat) (yT : Nat → ClassId) (n : Nat) (gT : Gs) (x0 : Int64) (x1 : Int32) (x2 : Int32) (q : Int64 × Gs) (hF : f_X12_become n gT x0 x1 x2 = some q) (sz : Nat) : Met l yX12_become (ws_ yX12_become cX12_become 5 (some .long)) R_X12_become (PC D (tX12 yT) [.ref hT, .long x0, .int x1, .int x2] (wX12 hT aT yT gT) sz) (QL D (va_A (wX12 hT aT yT gT) sz) (wX12 hT aT yT q.2) q.1) 0 0 (va_A (wX12 hT aT yT gT) sz) := by
  refine Met.ofW (cc := cX12_become) (maxL := 5) (ret := (some .long)) (by decide) rfl ?_
  intro p e s m args below meth c s₁ B hml hv
  obtain ⟨rfl, hsz, hP, hK, hD, hN⟩ := hv
  subst hsz
  have C : Cx p s m _ meth c cX12_become (some .long) 5 RX12 lw_all := Cx_of B hml
  have X := Hx_start hP hK hD hN
  obtain ⟨hx, hb, hr, -, hown, hts, hlk⟩ := id C
  generalize va_A (wX12 hT aT yT gT) s.heap.size = A at X ⊢
  have hl := lv_entry ([.ref hT, .long x0, .int x1, .int x2]) (n := 5) (Nat.le_of_ble_eq_true rfl)
  rw [lg_entry_eq]
  generalize (lg_sl ([.ref hT, .long x0, .int x1, .int x2]) ++ List.replicate (5 - (lg_sl ([.ref hT, .long x0, .int x1, .int x2])).length) Slot.unset).toArray = ls at hl ⊢
  have hl : lv_has ls 5 [(0, .ref hT), (1, .long x0), (3, .int x1), (4, .int x2)] := hl
  unfold f_X12_become at hF
  refine lv_iload_n hx hb dX12_become_0 rfl (lv_at hl 2 rfl) ?_
  refine lv_iload hx hb dX12_become_1 (lv_at hl 3 rfl) ?_
  refine lv_icmp_ne (tgt := 8) hx hb dX12_become_3 (by decide) (fun c => ?_) (fun c => ?_)
  · replace hF := iF c hF
    refine lv_iload hx hb dX12_become_8 (lv_at hl 3 rfl) ?_
    obtain ⟨q_1, hc_2, hF⟩ := bnd_some hF
    refine cS_i (As := [.int x2]) (rest := []) C X (c_X12_isReal l D  x2 q_1 hc_2 _) (va_cwS 1 hts (good_S q8_101 q8_102 q1_9 q8_103) rfl rfl rfl (by decide +kernel) ⟨Nat.le_of_ble_eq_true rfl, Nat.le_of_ble_eq_true rfl⟩) (eK X) eP (eD (A := A)) (eF X) hl.1 rfl rfl (Nat.le_of_ble_eq_true rfl) dX12_become_10 ⟨Nat.le_of_ble_eq_true rfl, Nat.le_of_ble_eq_true rfl⟩ (fun t H1 locs1 ht hB hk hS => ?_)
    have X := Hx_after_none X hk hS
    clear hk hS ht hB
    generalize H1 = H at X ⊢
    generalize locs1 = locs at X ⊢
    refine lv_if_eq (tgt := 54) hx hb dX12_become_13 (by decide) (fun c => ?_) (fun c => ?_)
    · replace hF := iT c hF
      refine lv_iload_n hx hb dX12_become_54 rfl (lv_at hl 2 rfl) ?_
      obtain ⟨q_3, hc_4, hF⟩ := bnd_some hF
      refine cS_i (As := [.int x1]) (rest := []) C X (c_X12_isReal l D  x1 q_3 hc_4 _) (va_cwS 1 hts (good_S q8_101 q8_102 q1_9 q8_103) rfl rfl rfl (by decide +kernel) ⟨Nat.le_of_ble_eq_true rfl, Nat.le_of_ble_eq_true rfl⟩) (eK X) eP (eD (A := A)) (eF X) hl.1 rfl rfl (Nat.le_of_ble_eq_true rfl) dX12_become_55 ⟨Nat.le_of_ble_eq_true rfl, Nat.le_of_ble_eq_true rfl⟩ (fun t H1 locs1 ht hB hk hS => ?_)
      have X := Hx_after_none X hk hS
      clear hk hS ht hB
      generalize H1 = H at X ⊢
      generalize locs1 = locs at X ⊢
      refine lv_if_ne (tgt := 68) hx hb dX12_become_58 (by decide) (fun c => ?_) (fun c => ?_)
      · replace hF := iF c hF
        refine lv_iload hx hb dX12_become_68 (lv_at hl 3 rfl) ?_
        refine lv_iconst (v := (5 : Int32)) hx hb dX12_become_70 (by decide) ?_
        refine lv_icmp_ne (tgt := 82) hx hb dX12_become_71 (by decide) (fun c => ?_) (fun c => ?_)
        · replace hF := iF c hF
          refine lv_aload_n hx hb dX12_become_82 rfl (lv_at hl 0 rfl) ?_
          refine lv_lload_n hx hb dX12_become_83 rfl (lv_at hl 1 rfl) ?_
          refine lv_iload_n hx hb dX12_become_84 rfl (lv_at hl 2 rfl) ?_
          refine lv_iconst (v := (4 : Int32)) hx hb dX12_become_85 (by decide) ?_
          obtain ⟨q_5, hc_6, hF⟩ := bnd_some hF
          refine cV_l (As := [.long x0, .int x1, .int (4 : Int32)]) (rest := []) C X (c_X12_towards l D hT aT yT n gT x0 x1 (4 : Int32) q_5 hc_6 _) (cwV 3 hts (good_V q8_154 q8_156 q0_74 q1_9 q8_157) rfl rfl rfl (by decide +kernel) ⟨Nat.le_of_ble_eq_true rfl, Nat.le_of_ble_eq_true rfl⟩) (va_recv X.1 X.2.1 (ci := 12) (q0 := 0) rfl rfl) X.1 X.2.1 X.2.2.1 (free_all X) hl.1 rfl rfl (Nat.le_of_ble_eq_true rfl) dX12_become_86 ⟨Nat.le_of_ble_eq_true rfl, Nat.le_of_ble_eq_true rfl⟩ (fun t H1 locs1 ht hB hk hS => ?_)
          have X : Hx D (tX12 yT) A s H1 locs1 (wX12 hT aT yT q_5.2) := Hx_after_all X ht hB hS
          clear hk hS ht hB
          generalize H1 = H at X ⊢
          generalize locs1 = locs at X ⊢
          refine lv_iload hx hb dX12_become_89 (lv_at hl 3 rfl) ?_
          obtain ⟨q_7, hc_8, hF⟩ := bnd_some hF
          refine cS_l (As := [.long q_5.1, .int x2]) (rest := []) C X (c_X12_narrowed l D  q_5.1 x2 q_7 hc_8 _) (va_cwS 2 hts (good_S q8_143 q8_144 q1_9 q8_145) rfl rfl rfl (by decide +kernel) ⟨Nat.le_of_ble_eq_true rfl, Nat.le_of_ble_eq_true rfl⟩) (eK X) eP (eD (A := A)) (eF X) hl.1 rfl rfl (Nat.le_of_ble_eq_true rfl) dX12_become_91 ⟨Nat.le_of_ble_eq_true rfl, Nat.le_of_ble_eq_true rfl⟩ (fun t H1 locs1 ht hB hk hS => ?_)
          have X := Hx_after_none X hk hS
          clear hk hS ht hB
          generalize H1 = H at X ⊢
          generalize locs1 = locs at X ⊢
          have hq := Option.some.inj hF
          subst hq
          exact rt_l C X dX12_become_94
        · replace hF := iT c hF
          refine lv_aload_n hx hb dX12_become_74 rfl (lv_at hl 0 rfl) ?_
          refine lv_lload_n hx hb dX12_become_75 rfl (lv_at hl 1 rfl) ?_
          refine lv_iload_n hx hb dX12_become_76 rfl (lv_at hl 2 rfl) ?_
          refine lv_iconst (v := (5 : Int32)) hx hb dX12_become_77 (by decide) ?_
          obtain ⟨q_9, hc_10, hF⟩ := bnd_some hF
          refine cV_l (As := [.long x0, .int x1, .int (5 : Int32)]) (rest := []) C X (c_X12_towards l D hT aT yT n gT x0 x1 (5 : Int32) q_9 hc_10 _) (cwV 3 hts (good_V q8_154 q8_156 q0_74 q1_9 q8_157) rfl rfl rfl (by decide +kernel) ⟨Nat.le_of_ble_eq_true rfl, Nat.le_of_ble_eq_true rfl⟩) (va_recv X.1 X.2.1 (ci := 12) (q0 := 0) rfl rfl) X.1 X.2.1 X.2.2.1 (free_all X) hl.1 rfl rfl (Nat.le_of_ble_eq_true rfl) dX12_become_78 ⟨Nat.le_of_ble_eq_true rfl, Nat.le_of_ble_eq_true rfl⟩ (fun t H1 locs1 ht hB hk hS => ?_)
          have X : Hx D (tX12 yT) A s H1 locs1 (wX12 hT aT yT q_9.2) := Hx_after_all X ht hB hS
          clear hk hS ht hB
          generalize H1 = H at X ⊢
          generalize locs1 = locs at X ⊢
          have hq := Option.some.inj hF
          subst hq
          exact rt_l C X dX12_become_81
      · replace hF := iT c hF
        refine lv_lload_n hx hb dX12_become_61 rfl (lv_at hl 1 rfl) ?_
        refine lv_iload hx hb dX12_become_62 (lv_at hl 3 rfl) ?_
        obtain ⟨q_11, hc_12, hF⟩ := bnd_some hF
        refine cS_l (As := [.long x0, .int x2]) (rest := []) C X (c_X12_narrowed l D  x0 x2 q_11 hc_12 _) (va_cwS 2 hts (good_S q8_143 q8_144 q1_9 q8_145) rfl rfl rfl (by decide +kernel) ⟨Nat.le_of_ble_eq_true rfl, Nat.le_of_ble_eq_true rfl⟩) (eK X) eP (eD (A := A)) (eF X) hl.1 rfl rfl (Nat.le_of_ble_eq_true rfl) dX12_become_64 ⟨Nat.le_of_ble_eq_true rfl, Nat.le_of_ble_eq_true rfl⟩ (fun t H1 locs1 ht hB hk hS => ?_)
        have X := Hx_after_none X hk hS
        clear hk hS ht hB
        generalize H1 = H at X ⊢
        generalize locs1 = locs at X ⊢
        have hq := Option.some.inj hF
        subst hq
        exact rt_l C X dX12_become_67
    · replace hF := iF c hF
      refine lv_iload_n hx hb dX12_become_16 rfl (lv_at hl 2 rfl) ?_
      obtain ⟨q_13, hc_14, hF⟩ := bnd_some hF
      refine cS_i (As := [.int x1]) (rest := []) C X (c_X12_isReal l D  x1 q_13 hc_14 _) (va_cwS 1 hts (good_S q8_101 q8_102 q1_9 q8_103) rfl rfl rfl (by decide +kernel) ⟨Nat.le_of_ble_eq_true rfl, Nat.le_of_ble_eq_true rfl⟩) (eK X) eP (eD (A := A)) (eF X) hl.1 rfl rfl (Nat.le_of_ble_eq_true rfl) dX12_become_17 ⟨Nat.le_of_ble_eq_true rfl, Nat.le_of_ble_eq_true rfl⟩ (fun t H1 locs1 ht hB hk hS => ?_)
      have X := Hx_after_none X hk hS
      clear hk hS ht hB
      generalize H1 = H at X ⊢
      generalize locs1 = locs at X ⊢
      refine lv_if_ne (tgt := 30) hx hb dX12_become_20 (by decide) (fun c => ?_) (fun c => ?_)
      · replace hF := iF c hF
        refine lv_aload_n hx hb dX12_become_30 rfl (lv_at hl 0 rfl) ?_
        refine lv_lload_n hx hb dX12_become_31 rfl (lv_at hl 1 rfl) ?_
        refine lv_iload_n hx hb dX12_become_32 rfl (lv_at hl 2 rfl) ?_
        obtain ⟨q_15, hc_16, hF⟩ := bnd_some hF
        refine cV_v (As := [.long x0, .int x1]) (rest := []) C X (c_X12_open l D hT aT yT gT x0 x1 q_15 hc_16 _) (cwV 2 hts (good_V q8_120 q8_122 q0_72 q1_9 q8_123) rfl rfl rfl (by decide +kernel) ⟨Nat.le_of_ble_eq_true rfl, Nat.le_of_ble_eq_true rfl⟩) (va_recv X.1 X.2.1 (ci := 12) (q0 := 0) rfl rfl) X.1 X.2.1 X.2.2.1 (free_all X) hl.1 rfl rfl (Nat.le_of_ble_eq_true rfl) dX12_become_33 ⟨Nat.le_of_ble_eq_true rfl, Nat.le_of_ble_eq_true rfl⟩ (fun t H1 locs1 ht hB hk hS => ?_)
        have X : Hx D (tX12 yT) A s H1 locs1 (wX12 hT aT yT q_15) := Hx_after_all X ht hB hS
        clear hk hS ht hB
        generalize H1 = H at X ⊢
        generalize locs1 = locs at X ⊢
        refine lv_aload_n hx hb dX12_become_36 rfl (lv_at hl 0 rfl) ?_
        refine va_get (D := D.1) (ci := 12) (v := .int (gI q_15 0)) (C := RX12) (T := TX12) (N := 114) hx hb hts wi_X12 hown X.1 X.2.1 0 rfl rfl 0 (by decide) (hts _ q6_194) (fun _ h9 => h9) (fl_get (by decide)) dX12_become_37 ?_
        refine lv_aload_n hx hb dX12_become_40 rfl (lv_at hl 0 rfl) ?_
        refine va_get (D := D.1) (ci := 12) (v := .long (gL q_15 1)) (C := RX12) (T := TX12) (N := 114) hx hb hts wi_X12 hown X.1 X.2.1 0 rfl rfl 1 (by decide) (hts _ q6_195) (fun _ h9 => h9) (fl_get (by decide)) dX12_become_41 ?_
        refine lv_aload_n hx hb dX12_become_44 rfl (lv_at hl 0 rfl) ?_
        refine va_get (D := D.1) (ci := 12) (v := .int (gI q_15 2)) (C := RX12) (T := TX12) (N := 114) hx hb hts wi_X12 hown X.1 X.2.1 0 rfl rfl 2 (by decide) (hts _ q6_196) (fun _ h9 => h9) (fl_get (by decide)) dX12_become_45 ?_
        refine lv_iload hx hb dX12_become_48 (lv_at hl 3 rfl) ?_
        obtain ⟨q_17, hc_18, hF⟩ := bnd_some hF
        refine cS_l (As := [.int (gI q_15 0), .long (gL q_15 1), .int (gI q_15 2), .int x2]) (rest := []) C X (c_X12_made l D  n (gI q_15 0) (gL q_15 1) (gI q_15 2) x2 q_17 hc_18 _) (va_cwS 4 hts (good_S q8_128 q8_129 q1_9 q8_130) rfl rfl rfl (by decide +kernel) ⟨Nat.le_of_ble_eq_true rfl, Nat.le_of_ble_eq_true rfl⟩) (eK X) eP (eD (A := A)) (eF X) hl.1 rfl rfl (Nat.le_of_ble_eq_true rfl) dX12_become_50 ⟨Nat.le_of_ble_eq_true rfl, Nat.le_of_ble_eq_true rfl⟩ (fun t H1 locs1 ht hB hk hS => ?_)
        have X := Hx_after_none X hk hS
        clear hk hS ht hB
        generalize H1 = H at X ⊢
        generalize locs1 = locs at X ⊢
        have hq := Option.some.inj hF
        subst hq
        exact rt_l C X dX12_become_53
      · replace hF := iT c hF
        refine lv_lload_n hx hb dX12_become_23 rfl (lv_at hl 1 rfl) ?_
        refine lv_iload hx hb dX12_become_24 (lv_at hl 3 rfl) ?_
        obtain ⟨q_19, hc_20, hF⟩ := bnd_some hF
        refine cS_l (As := [.long x0, .int x2]) (rest := []) C X (c_X12_fromWhole l D  n x0 x2 q_19 hc_20 _) (va_cwS 2 hts (good_S q8_140 q8_141 q1_9 q8_142) rfl rfl rfl (by decide +kernel) ⟨Nat.le_of_ble_eq_true rfl, Nat.le_of_ble_eq_true rfl⟩) (eK X) eP (eD (A := A)) (eF X) hl.1 rfl rfl (Nat.le_of_ble_eq_true rfl) dX12_become_26 ⟨Nat.le_of_ble_eq_true rfl, Nat.le_of_ble_eq_true rfl⟩ (fun t H1 locs1 ht hB hk hS => ?_)
        have X := Hx_after_none X hk hS
        clear hk hS ht hB
        generalize H1 = H at X ⊢
        generalize locs1 = locs at X ⊢
        have hq := Option.some.inj hF
        subst hq
        exact rt_l C X dX12_become_29
  · replace hF := iT c hF
    refine lv_lload_n hx hb dX12_become_6 rfl (lv_at hl 1 rfl) ?_
    have hq := Option.some.inj hF
    subst hq
    exact rt_l C X dX12_become_7

/-! ### X12_remainder -/
theorem dX12_remainder_0 : decode cX12_remainder 0 = .ok (.aload_n 0, 1) := by decide +kernel
theorem dX12_remainder_1 : decode cX12_remainder 1 = .ok (.lload_n 3, 1) := by decide +kernel
theorem dX12_remainder_2 : decode cX12_remainder 2 = .ok (.bipush 7, 2) := by decide +kernel
theorem dX12_remainder_4 : decode cX12_remainder 4 = .ok (.invokevirtual 432, 3) := by decide +kernel
theorem dX12_remainder_7 : decode cX12_remainder 7 = .ok (.aload_n 0, 1) := by decide +kernel
theorem dX12_remainder_8 : decode cX12_remainder 8 = .ok (.getfield 408, 3) := by decide +kernel
theorem dX12_remainder_11 : decode cX12_remainder 11 = .ok (.lstore 5, 2) := by decide +kernel
theorem dX12_remainder_13 : decode cX12_remainder 13 = .ok (.aload_n 0, 1) := by decide +kernel
theorem dX12_remainder_14 : decode cX12_remainder 14 = .ok (.getfield 413, 3) := by decide +kernel
theorem dX12_remainder_17 : decode cX12_remainder 17 = .ok (.istore 7, 2) := by decide +kernel
theorem dX12_remainder_19 : decode cX12_remainder 19 = .ok (.aload_n 0, 1) := by decide +kernel
theorem dX12_remainder_20 : decode cX12_remainder 20 = .ok (.lload_n 1, 1) := by decide +kernel
theorem dX12_remainder_21 : decode cX12_remainder 21 = .ok (.bipush 7, 2) := by decide +kernel
theorem dX12_remainder_23 : decode cX12_remainder 23 = .ok (.invokevirtual 432, 3) := by decide +kernel
theorem dX12_remainder_26 : decode cX12_remainder 26 = .ok (.iload 7, 2) := by decide +kernel
theorem dX12_remainder_28 : decode cX12_remainder 28 = .ok (.aload_n 0, 1) := by decide +kernel
theorem dX12_remainder_29 : decode cX12_remainder 29 = .ok (.getfield 413, 3) := by decide +kernel
theorem dX12_remainder_32 : decode cX12_remainder 32 = .ok (.if_icmp .le 51, 3) := by decide +kernel
theorem dX12_remainder_35 : decode cX12_remainder 35 = .ok (.iload 7, 2) := by decide +kernel
theorem dX12_remainder_37 : decode cX12_remainder 37 = .ok (.aload_n 0, 1) := by decide +kernel
theorem dX12_remainder_38 : decode cX12_remainder 38 = .ok (.getfield 413, 3) := by decide +kernel
theorem dX12_remainder_41 : decode cX12_remainder 41 = .ok (.isub, 1) := by decide +kernel
theorem dX12_remainder_42 : decode cX12_remainder 42 = .ok (.istore 8, 2) := by decide +kernel
theorem dX12_remainder_44 : decode cX12_remainder 44 = .ok (.iload 8, 2) := by decide +kernel
theorem dX12_remainder_46 : decode cX12_remainder 46 = .ok (.bipush 62, 2) := by decide +kernel
theorem dX12_remainder_48 : decode cX12_remainder 48 = .ok (.lload 5, 2) := by decide +kernel
theorem dX12_remainder_50 : decode cX12_remainder 50 = .ok (.invokestatic 420, 3) := by decide +kernel
theorem dX12_remainder_53 : decode cX12_remainder 53 = .ok (.isub, 1) := by decide +kernel
theorem dX12_remainder_54 : decode cX12_remainder 54 = .ok (.if_icmp .le 5, 3) := by decide +kernel
theorem dX12_remainder_57 : decode cX12_remainder 57 = .ok (.lload_n 1, 1) := by decide +kernel
theorem dX12_remainder_58 : decode cX12_remainder 58 = .ok (.lreturn, 1) := by decide +kernel
theorem dX12_remainder_59 : decode cX12_remainder 59 = .ok (.aload_n 0, 1) := by decide +kernel
theorem dX12_remainder_60 : decode cX12_remainder 60 = .ok (.getfield 403, 3) := by decide +kernel
theorem dX12_remainder_63 : decode cX12_remainder 63 = .ok (.aload_n 0, 1) := by decide +kernel
theorem dX12_remainder_64 : decode cX12_remainder 64 = .ok (.getfield 408, 3) := by decide +kernel
theorem dX12_remainder_67 : decode cX12_remainder 67 = .ok (.lload 5, 2) := by decide +kernel
theorem dX12_remainder_69 : decode cX12_remainder 69 = .ok (.iload 8, 2) := by decide +kernel
theorem dX12_remainder_71 : decode cX12_remainder 71 = .ok (.lshl, 1) := by decide +kernel
theorem dX12_remainder_72 : decode cX12_remainder 72 = .ok (.lrem, 1) := by decide +kernel
theorem dX12_remainder_73 : decode cX12_remainder 73 = .ok (.aload_n 0, 1) := by decide +kernel
theorem dX12_remainder_74 : decode cX12_remainder 74 = .ok (.getfield 413, 3) := by decide +kernel
theorem dX12_remainder_77 : decode cX12_remainder 77 = .ok (.bipush 7, 2) := by decide +kernel
theorem dX12_remainder_79 : decode cX12_remainder 79 = .ok (.invokestatic 458, 3) := by decide +kernel
theorem dX12_remainder_82 : decode cX12_remainder 82 = .ok (.lreturn, 1) := by decide +kernel
theorem dX12_remainder_83 : decode cX12_remainder 83 = .ok (.aload_n 0, 1) := by decide +kernel
theorem dX12_remainder_84 : decode cX12_remainder 84 = .ok (.getfield 408, 3) := by decide +kernel
theorem dX12_remainder_87 : decode cX12_remainder 87 = .ok (.lload 5, 2) := by decide +kernel
theorem dX12_remainder_89 : decode cX12_remainder 89 = .ok (.lrem, 1) := by decide +kernel
theorem dX12_remainder_90 : decode cX12_remainder 90 = .ok (.lstore 8, 2) := by decide +kernel
theorem dX12_remainder_92 : decode cX12_remainder 92 = .ok (.aload_n 0, 1) := by decide +kernel
theorem dX12_remainder_93 : decode cX12_remainder 93 = .ok (.getfield 413, 3) := by decide +kernel
theorem dX12_remainder_96 : decode cX12_remainder 96 = .ok (.istore 10, 2) := by decide +kernel
theorem dX12_remainder_98 : decode cX12_remainder 98 = .ok (.iload 10, 2) := by decide +kernel
theorem dX12_remainder_100 : decode cX12_remainder 100 = .ok (.iload 7, 2) := by decide +kernel
theorem dX12_remainder_102 : decode cX12_remainder 102 = .ok (.if_icmp .le 37, 3) := by decide +kernel
theorem dX12_remainder_105 : decode cX12_remainder 105 = .ok (.lload 8, 2) := by decide +kernel
theorem dX12_remainder_107 : decode cX12_remainder 107 = .ok (.lconst 0, 1) := by decide +kernel
theorem dX12_remainder_108 : decode cX12_remainder 108 = .ok (.lcmp, 1) := by decide +kernel
theorem dX12_remainder_109 : decode cX12_remainder 109 = .ok (.ifCond .eq 30, 3) := by decide +kernel
theorem dX12_remainder_112 : decode cX12_remainder 112 = .ok (.lload 8, 2) := by decide +kernel
theorem dX12_remainder_114 : decode cX12_remainder 114 = .ok (.iconst 1, 1) := by decide +kernel
theorem dX12_remainder_115 : decode cX12_remainder 115 = .ok (.lshl, 1) := by decide +kernel
theorem dX12_remainder_116 : decode cX12_remainder 116 = .ok (.lstore 8, 2) := by decide +kernel
theorem dX12_remainder_118 : decode cX12_remainder 118 = .ok (.lload 8, 2) := by decide +kernel
theorem dX12_remainder_120 : decode cX12_remainder 120 = .ok (.lload 5, 2) := by decide +kernel
theorem dX12_remainder_122 : decode cX12_remainder 122 = .ok (.lcmp, 1) := by decide +kernel
theorem dX12_remainder_123 : decode cX12_remainder 123 = .ok (.ifCond .lt 10, 3) := by decide +kernel
theorem dX12_remainder_126 : decode cX12_remainder 126 = .ok (.lload 8, 2) := by decide +kernel
theorem dX12_remainder_128 : decode cX12_remainder 128 = .ok (.lload 5, 2) := by decide +kernel
theorem dX12_remainder_130 : decode cX12_remainder 130 = .ok (.lsub, 1) := by decide +kernel
theorem dX12_remainder_131 : decode cX12_remainder 131 = .ok (.lstore 8, 2) := by decide +kernel
theorem dX12_remainder_133 : decode cX12_remainder 133 = .ok (.iinc 10 (-1), 3) := by decide +kernel
theorem dX12_remainder_136 : decode cX12_remainder 136 = .ok (.goto (-38), 3) := by decide +kernel
theorem dX12_remainder_139 : decode cX12_remainder 139 = .ok (.aload_n 0, 1) := by decide +kernel
theorem dX12_remainder_140 : decode cX12_remainder 140 = .ok (.getfield 403, 3) := by decide +kernel
theorem dX12_remainder_143 : decode cX12_remainder 143 = .ok (.lload 8, 2) := by decide +kernel
theorem dX12_remainder_145 : decode cX12_remainder 145 = .ok (.iload 7, 2) := by decide +kernel
theorem dX12_remainder_147 : decode cX12_remainder 147 = .ok (.bipush 7, 2) := by decide +kernel
theorem dX12_remainder_149 : decode cX12_remainder 149 = .ok (.invokestatic 458, 3) := by decide +kernel
theorem dX12_remainder_152 : decode cX12_remainder 152 = .ok (.lreturn, 1) := by decide +kernel
abbrev R_X12_remainder : Room := ({ frames := 2, cells := 0, slots := 0, locals := 58 } : Room)
def b_X12_remainder_139 (n : Nat) (rec : (Gs → Int64 → Int32 → Int64 → Int32 → Option (Int64 × Gs))) (gT : Gs) (v7 : Int32) (v8 : Int64) : Option (Int64 × Gs) :=
  bnd (f_X12_made n (gI gT 0) v8 v7 (7 : Int32)) (fun q_6 => some (q_6, gT))
def b_X12_remainder_133 (n : Nat) (rec : (Gs → Int64 → Int32 → Int64 → Int32 → Option (Int64 × Gs))) (gT : Gs) (v5 : Int64) (v7 : Int32) (v8 : Int64) (v10 : Int32) : Option (Int64 × Gs) :=
  rec gT v5 v7 v8 (v10 + (-1 : Int32))
def h_X12_remainder_98 (n : Nat) (rec : (Gs → Int64 → Int32 → Int64 → Int32 → Option (Int64 × Gs))) (gT : Gs) (v5 : Int64) (v7 : Int32) (v8 : Int64) (v10 : Int32) : Option (Int64 × Gs) :=
  if v10 ≤ v7 then (b_X12_remainder_139 n rec gT v7 v8) else (if v8 = (0 : Int64) then (b_X12_remainder_139 n rec gT v7 v8) else (if (v8 <<< ((1 : Int32).toInt64 &&& 63)) < v5 then (b_X12_remainder_133 n rec gT v5 v7 (v8 <<< ((1 : Int32).toInt64 &&& 63)) v10) else (b_X12_remainder_133 n rec gT v5 v7 ((v8 <<< ((1 : Int32).toInt64 &&& 63)) - v5) v10)))
def L_X12_remainder (n : Nat) : Nat → (Gs → Int64 → Int32 → Int64 → Int32 → Option (Int64 × Gs))
  | 0 => ((fun _ _ _ _ _ => none))
  | k + 1 => (h_X12_remainder_98 n (L_X12_remainder n k))
def f_X12_remainder (n : Nat) (gT : Gs) (x0 : Int64) (x1 : Int64) : Option (Int64 × Gs) :=
  bnd (f_X12_open gT x1 (7 : Int32)) (fun q_1 => bnd (f_X12_open q_1 x0 (7 : Int32)) (fun q_3 => if (gI q_1 2) ≤ (gI q_3 2) then (grd (nzL (gL q_1 1)) ((L_X12_remainder n n) q_3 (gL q_1 1) (gI q_1 2) ((gL q_3 1) - (gL q_3 1) / (gL q_1 1) * (gL q_1 1)) (gI q_3 2))) else (bnd (f_X12_lengthOf n (gL q_1 1)) (fun q_8 => if ((gI q_1 2) - (gI q_3 2)) ≤ ((62 : Int32) - q_8) then (grd (nzL ((gL q_1 1) <<< (((gI q_1 2) - (gI q_3 2)).toInt64 &&& 63))) (bnd (f_X12_made n (gI q_3 0) ((gL q_3 1) - (gL q_3 1) / ((gL q_1 1) <<< (((gI q_1 2) - (gI q_3 2)).toInt64 &&& 63)) * ((gL q_1 1) <<< (((gI q_1 2) - (gI q_3 2)).toInt64 &&& 63))) (gI q_3 2) (7 : Int32)) (fun q_11 => some (q_11, q_3)))) else (some (x0, q_3))))))
def S_X12_remainder_139 (l : Launch) (D : Dx) (hT : Nat) (aT : Nat → Nat) (yT : Nat → ClassId) (fn : Gs → Int32 → Int64 → Option (Int64 × Gs)) : Prop :=
  ∀ {p : Program} {e : Env} {s : State} {m : MethodId} {args : Array Value} {below : List Frame} {meth : Method} {c : Code} {H : Heap} {locs : List Loc} {A : Nat → Prop} {ls : Array Slot} {gT : Gs} {v7 : Int32} {v8 : Int64} {q : Int64 × Gs}, Cx p s m args meth c cX12_remainder (some .long) 11 RX12 lw_all → Hx D (tX12 yT) A s H locs (wX12 hT aT yT gT) → lv_has ls 11 [(0, .ref hT), (7, .int v7), (8, .long v8)] → fn gT v7 v8 = some q → W p l e R_X12_remainder s m args below meth c H locs 0 0 (MQ below (QL D A (wX12 hT aT yT q.2) q.1) args s 0 0 A) (F0 m 139 ls [])
def S_X12_remainder_133 (l : Launch) (D : Dx) (hT : Nat) (aT : Nat → Nat) (yT : Nat → ClassId) (fn : Gs → Int64 → Int32 → Int64 → Int32 → Option (Int64 × Gs)) : Prop :=
  ∀ {p : Program} {e : Env} {s : State} {m : MethodId} {args : Array Value} {below : List Frame} {meth : Method} {c : Code} {H : Heap} {locs : List Loc} {A : Nat → Prop} {ls : Array Slot} {gT : Gs} {v5 : Int64} {v7 : Int32} {v8 : Int64} {v10 : Int32} {q : Int64 × Gs}, Cx p s m args meth c cX12_remainder (some .long) 11 RX12 lw_all → Hx D (tX12 yT) A s H locs (wX12 hT aT yT gT) → lv_has ls 11 [(0, .ref hT), (5, .long v5), (7, .int v7), (8, .long v8), (10, .int v10)] → fn gT v5 v7 v8 v10 = some q → W p l e R_X12_remainder s m args below meth c H locs 0 0 (MQ below (QL D A (wX12 hT aT yT q.2) q.1) args s 0 0 A) (F0 m 133 ls [])
def S_X12_remainder_98 (l : Launch) (D : Dx) (hT : Nat) (aT : Nat → Nat) (yT : Nat → ClassId) (fn : Gs → Int64 → Int32 → Int64 → Int32 → Option (Int64 × Gs)) : Prop :=
  ∀ {p : Program} {e : Env} {s : State} {m : MethodId} {args : Array Value} {below : List Frame} {meth : Method} {c : Code} {H : Heap} {locs : List Loc} {A : Nat → Prop} {ls : Array Slot} {gT : Gs} {v5 : Int64} {v7 : Int32} {v8 : Int64} {v10 : Int32} {q : Int64 × Gs}, Cx p s m args meth c cX12_remainder (some .long) 11 RX12 lw_all → Hx D (tX12 yT) A s H locs (wX12 hT aT yT gT) → lv_has ls 11 [(0, .ref hT), (5, .long v5), (7, .int v7), (8, .long v8), (10, .int v10)] → fn gT v5 v7 v8 v10 = some q → W p l e R_X12_remainder s m args below meth c H locs 0 0 (MQ below (QL D A (wX12 hT aT yT q.2) q.1) args s 0 0 A) (F0 m 98 ls [])
def SH_X12_remainder (l : Launch) (D : Dx) (hT : Nat) (aT : Nat → Nat) (yT : Nat → ClassId) (rec : (Gs → Int64 → Int32 → Int64 → Int32 → Option (Int64 × Gs))) : Prop := S_X12_remainder_98 l D hT aT yT rec
set_option maxHeartbeats 4000000 in
set_option maxRecDepth 100000 in
theorem k_X12_remainder_139 (l : Launch) (D : Dx) (hT : Nat) (aT : Nat → Nat) (yT : Nat → ClassId) (n : Nat) (rec : (Gs → Int64 → Int32 → Int64 → Int32 → Option (Int64 × Gs))) (IH : SH_X12_remainder l D hT aT yT rec) : S_X12_remainder_139 l D hT aT yT (b_X12_remainder_139 n rec) := by
  intro p e s m args below meth c H locs A ls gT v7 v8 q C X hl hF
  obtain ⟨hx, hb, hr, hml, hown, hts, hlk⟩ := id C
  unfold b_X12_remainder_139 at hF
  refine lv_aload_n hx hb dX12_remainder_139 rfl (lv_at hl 0 rfl) ?_
  refine va_get (D := D.1) (ci := 12) (v := .int (gI gT 0)) (C := RX12) (T := TX12) (N := 114) hx hb hts wi_X12 hown X.1 X.2.1 0 rfl rfl 0 (by decide) (hts _ q6_194) (fun _ h9 => h9) (fl_get (by decide)) dX12_remainder_140 ?_
  refine lv_lload hx hb dX12_remainder_143 (lv_at hl 2 rfl) ?_
  refine lv_iload hx hb dX12_remainder_145 (lv_at hl 1 rfl) ?_
  refine lv_bipush (v := (7 : Int32)) hx hb dX12_remainder_147 (by decide) ?_
  obtain ⟨q_6, hc_7, hF⟩ := bnd_some hF
  refine cS_l (As := [.int (gI gT 0), .long v8, .int v7, .int (7 : Int32)]) (rest := []) C X (c_X12_made l D  n (gI gT 0) v8 v7 (7 : Int32) q_6 hc_7 _) (va_cwS 4 hts (good_S q8_128 q8_129 q1_9 q8_130) rfl rfl rfl (by decide +kernel) ⟨Nat.le_of_ble_eq_true rfl, Nat.le_of_ble_eq_true rfl⟩) (eK X) eP (eD (A := A)) (eF X) hl.1 rfl rfl (Nat.le_of_ble_eq_true rfl) dX12_remainder_149 ⟨Nat.le_of_ble_eq_true rfl, Nat.le_of_ble_eq_true rfl⟩ (fun t H1 locs1 ht hB hk hS => ?_)
  have X := Hx_after_none X hk hS
  clear hk hS ht hB
  generalize H1 = H at X ⊢
  generalize locs1 = locs at X ⊢
  have hq := Option.some.inj hF
  subst hq
  exact rt_l C X dX12_remainder_152
set_option maxHeartbeats 4000000 in
set_option maxRecDepth 100000 in
theorem k_X12_remainder_133 (l : Launch) (D : Dx) (hT : Nat) (aT : Nat → Nat) (yT : Nat → ClassId) (n : Nat) (rec : (Gs → Int64 → Int32 → Int64 → Int32 → Option (Int64 × Gs))) (IH : SH_X12_remainder l D hT aT yT rec) : S_X12_remainder_133 l D hT aT yT (b_X12_remainder_133 n rec) := by
  intro p e s m args below meth c H locs A ls gT v5 v7 v8 v10 q C X hl hF
  obtain ⟨hx, hb, hr, hml, hown, hts, hlk⟩ := id C
  unfold b_X12_remainder_133 at hF
  refine lv_iinc (v := v10 + (-1 : Int32)) (lv' := [(10, .int (v10 + (-1 : Int32))), (0, .ref hT), (5, .long v5), (7, .int v7), (8, .long v8)]) hx hb dX12_remainder_133 hl (k := 4) rfl rfl (by decide) rfl (fun ls hl => ?_)
  refine lv_goto (tgt := 98) hx hb dX12_remainder_136 (by decide) ?_
  exact IH C X (lv_sub hl [1, 2, 3, 4, 0] rfl) hF
set_option maxHeartbeats 4000000 in
set_option maxRecDepth 100000 in
theorem k_X12_remainder_98 (l : Launch) (D : Dx) (hT : Nat) (aT : Nat → Nat) (yT : Nat → ClassId) (n : Nat) (rec : (Gs → Int64 → Int32 → Int64 → Int32 → Option (Int64 × Gs))) (IH : SH_X12_remainder l D hT aT yT rec) : S_X12_remainder_98 l D hT aT yT (h_X12_remainder_98 n rec) := by
  intro p e s m args below meth c H locs A ls gT v5 v7 v8 v10 q C X hl hF
  obtain ⟨hx, hb, hr, hml, hown, hts, hlk⟩ := id C
  unfold h_X12_remainder_98 at hF
  refine lv_iload hx hb dX12_remainder_98 (lv_at hl 4 rfl) ?_
  refine lv_iload hx hb dX12_remainder_100 (lv_at hl 2 rfl) ?_
  refine lv_icmp_le (tgt := 139) hx hb dX12_remainder_102 (by decide) (fun c => ?_) (fun c => ?_)
  · replace hF := iT c hF
    exact (k_X12_remainder_139 l D hT aT yT n rec IH) C X (lv_sub hl [0, 2, 3] rfl) hF
  · replace hF := iF c hF
    refine lv_lload hx hb dX12_remainder_105 (lv_at hl 3 rfl) ?_
    refine lv_lconst (v := (0 : Int64)) hx hb dX12_remainder_107 (by decide) ?_
    refine W.lcmp hx hb dX12_remainder_108 ?_
    refine lv_if_eq (tgt := 139) hx hb dX12_remainder_109 (by decide) (fun c => ?_) (fun c => ?_)
    · have c := (lg_cmp_eq _ _).mp c
      replace hF := iT c hF
      exact (k_X12_remainder_139 l D hT aT yT n rec IH) C X (lv_sub hl [0, 2, 3] rfl) hF
    · have c := fun h => c ((lg_cmp_eq _ _).mpr h)
      replace hF := iF c hF
      refine lv_lload hx hb dX12_remainder_112 (lv_at hl 3 rfl) ?_
      refine lv_iconst (v := (1 : Int32)) hx hb dX12_remainder_114 (by decide) ?_
      refine lv_lshl hx hb dX12_remainder_115 rfl ?_
      refine lv_lstore (lv' := [(8, .long (v8 <<< ((1 : Int32).toInt64 &&& 63))), (0, .ref hT), (5, .long v5), (7, .int v7), (10, .int v10)]) hx hb dX12_remainder_116 hl (by decide) rfl (fun ls hl => ?_)
      refine lv_lload hx hb dX12_remainder_118 (lv_at hl 0 rfl) ?_
      refine lv_lload hx hb dX12_remainder_120 (lv_at hl 2 rfl) ?_
      refine W.lcmp hx hb dX12_remainder_122 ?_
      refine lv_if_lt (tgt := 133) hx hb dX12_remainder_123 (by decide) (fun c => ?_) (fun c => ?_)
      · have c := (lg_cmp_lt _ _).mp c
        replace hF := iT c hF
        exact (k_X12_remainder_133 l D hT aT yT n rec IH) C X (lv_sub hl [1, 2, 3, 0, 4] rfl) hF
      · have c := fun h => c ((lg_cmp_lt _ _).mpr h)
        replace hF := iF c hF
        refine lv_lload hx hb dX12_remainder_126 (lv_at hl 0 rfl) ?_
        refine lv_lload hx hb dX12_remainder_128 (lv_at hl 2 rfl) ?_
        refine lv_lsub hx hb dX12_remainder_130 ?_
        refine lv_lstore (lv' := [(8, .long ((v8 <<< ((1 : Int32).toInt64 &&& 63)) - v5)), (0, .ref hT), (5, .long v5), (7, .int v7), (10, .int v10)]) hx hb dX12_remainder_131 hl (by decide) rfl (fun ls hl => ?_)
        exact (k_X12_remainder_133 l D hT aT yT n rec IH) C X (lv_sub hl [1, 2, 3, 0, 4] rfl) hF
theorem kL_X12_remainder (l : Launch) (D : Dx) (hT : Nat) (aT : Nat → Nat) (yT : Nat → ClassId) (n : Nat) : ∀ k, SH_X12_remainder l D hT aT yT (L_X12_remainder n k)
  | 0 => fun _ _ _ h => by cases h
  | k + 1 => k_X12_remainder_98 l D hT aT yT n _ (kL_X12_remainder l D hT aT yT n k)
set_option maxHeartbeats 4000000 in
set_option maxRecDepth 100000 in
theorem c_X12_remainder (l : Launch) (D : Dx) (hT : Nat) (aT : Nat → Nat) (yT : Nat → ClassId) (n : Nat) (gT : Gs) (x0 : Int64) (x1 : Int64) (q : Int64 × Gs) (hF : f_X12_remainder n gT x0 x1 = some q) (sz : Nat) : Met l yX12_remainder (ws_ yX12_remainder cX12_remainder 11 (some .long)) R_X12_remainder (PC D (tX12 yT) [.ref hT, .long x0, .long x1] (wX12 hT aT yT gT) sz) (QL D (va_A (wX12 hT aT yT gT) sz) (wX12 hT aT yT q.2) q.1) 0 0 (va_A (wX12 hT aT yT gT) sz) := by
  refine Met.ofW (cc := cX12_remainder) (maxL := 11) (ret := (some .long)) (by decide) rfl ?_
  intro p e s m args below meth c s₁ B hml hv
  obtain ⟨rfl, hsz, hP, hK, hD, hN⟩ := hv
  subst hsz
  have C : Cx p s m _ meth c cX12_remainder (some .long) 11 RX12 lw_all := Cx_of B hml
  have X := Hx_start hP hK hD hN
  obtain ⟨hx, hb, hr, -, hown, hts, hlk⟩ := id C
  generalize va_A (wX12 hT aT yT gT) s.heap.size = A at X ⊢
  have hl := lv_entry ([.ref hT, .long x0, .long x1]) (n := 11) (Nat.le_of_ble_eq_true rfl)
  rw [lg_entry_eq]
  generalize (lg_sl ([.ref hT, .long x0, .long x1]) ++ List.replicate (11 - (lg_sl ([.ref hT, .long x0, .long x1])).length) Slot.unset).toArray = ls at hl ⊢
  have hl : lv_has ls 11 [(0, .ref hT), (1, .long x0), (3, .long x1)] := hl
  unfold f_X12_remainder at hF
  refine lv_aload_n hx hb dX12_remainder_0 rfl (lv_at hl 0 rfl) ?_
  refine lv_lload_n hx hb dX12_remainder_1 rfl (lv_at hl 2 rfl) ?_
  refine lv_bipush (v := (7 : Int32)) hx hb dX12_remainder_2 (by decide) ?_
  obtain ⟨q_1, hc_2, hF⟩ := bnd_some hF
  refine cV_v (As := [.long x1, .int (7 : Int32)]) (rest := []) C X (c_X12_open l D hT aT yT gT x1 (7 : Int32) q_1 hc_2 _) (cwV 2 hts (good_V q8_120 q8_122 q0_72 q1_9 q8_123) rfl rfl rfl (by decide +kernel) ⟨Nat.le_of_ble_eq_true rfl, Nat.le_of_ble_eq_true rfl⟩) (va_recv X.1 X.2.1 (ci := 12) (q0 := 0) rfl rfl) X.1 X.2.1 X.2.2.1 (free_all X) hl.1 rfl rfl (Nat.le_of_ble_eq_true rfl) dX12_remainder_4 ⟨Nat.le_of_ble_eq_true rfl, Nat.le_of_ble_eq_true rfl⟩ (fun t H1 locs1 ht hB hk hS => ?_)
  have X : Hx D (tX12 yT) A s H1 locs1 (wX12 hT aT yT q_1) := Hx_after_all X ht hB hS
  clear hk hS ht hB
  generalize H1 = H at X ⊢
  generalize locs1 = locs at X ⊢
  refine lv_aload_n hx hb dX12_remainder_7 rfl (lv_at hl 0 rfl) ?_
  refine va_get (D := D.1) (ci := 12) (v := .long (gL q_1 1)) (C := RX12) (T := TX12) (N := 114) hx hb hts wi_X12 hown X.1 X.2.1 0 rfl rfl 1 (by decide) (hts _ q6_195) (fun _ h9 => h9) (fl_get (by decide)) dX12_remainder_8 ?_
  refine lv_lstore (lv' := [(5, .long (gL q_1 1)), (0, .ref hT), (1, .long x0), (3, .long x1)]) hx hb dX12_remainder_11 hl (by decide) rfl (fun ls hl => ?_)
  refine lv_aload_n hx hb dX12_remainder_13 rfl (lv_at hl 1 rfl) ?_
  refine va_get (D := D.1) (ci := 12) (v := .int (gI q_1 2)) (C := RX12) (T := TX12) (N := 114) hx hb hts wi_X12 hown X.1 X.2.1 0 rfl rfl 2 (by decide) (hts _ q6_196) (fun _ h9 => h9) (fl_get (by decide)) dX12_remainder_14 ?_
  refine lv_istore (lv' := [(7, .int (gI q_1 2)), (5, .long (gL q_1 1)), (0, .ref hT), (1, .long x0), (3, .long x1)]) hx hb dX12_remainder_17 hl (by decide) rfl (fun ls hl => ?_)
  refine lv_aload_n hx hb dX12_remainder_19 rfl (lv_at hl 2 rfl) ?_
  refine lv_lload_n hx hb dX12_remainder_20 rfl (lv_at hl 3 rfl) ?_
  refine lv_bipush (v := (7 : Int32)) hx hb dX12_remainder_21 (by decide) ?_
  obtain ⟨q_3, hc_4, hF⟩ := bnd_some hF
  refine cV_v (As := [.long x0, .int (7 : Int32)]) (rest := []) C X (c_X12_open l D hT aT yT q_1 x0 (7 : Int32) q_3 hc_4 _) (cwV 2 hts (good_V q8_120 q8_122 q0_72 q1_9 q8_123) rfl rfl rfl (by decide +kernel) ⟨Nat.le_of_ble_eq_true rfl, Nat.le_of_ble_eq_true rfl⟩) (va_recv X.1 X.2.1 (ci := 12) (q0 := 0) rfl rfl) X.1 X.2.1 X.2.2.1 (free_all X) hl.1 rfl rfl (Nat.le_of_ble_eq_true rfl) dX12_remainder_23 ⟨Nat.le_of_ble_eq_true rfl, Nat.le_of_ble_eq_true rfl⟩ (fun t H1 locs1 ht hB hk hS => ?_)
  have X : Hx D (tX12 yT) A s H1 locs1 (wX12 hT aT yT q_3) := Hx_after_all X ht hB hS
  clear hk hS ht hB
  generalize H1 = H at X ⊢
  generalize locs1 = locs at X ⊢
  refine lv_iload hx hb dX12_remainder_26 (lv_at hl 0 rfl) ?_
  refine lv_aload_n hx hb dX12_remainder_28 rfl (lv_at hl 2 rfl) ?_
  refine va_get (D := D.1) (ci := 12) (v := .int (gI q_3 2)) (C := RX12) (T := TX12) (N := 114) hx hb hts wi_X12 hown X.1 X.2.1 0 rfl rfl 2 (by decide) (hts _ q6_196) (fun _ h9 => h9) (fl_get (by decide)) dX12_remainder_29 ?_
  refine lv_icmp_le (tgt := 83) hx hb dX12_remainder_32 (by decide) (fun c => ?_) (fun c => ?_)
  · replace hF := iT c hF
    refine lv_aload_n hx hb dX12_remainder_83 rfl (lv_at hl 2 rfl) ?_
    refine va_get (D := D.1) (ci := 12) (v := .long (gL q_3 1)) (C := RX12) (T := TX12) (N := 114) hx hb hts wi_X12 hown X.1 X.2.1 0 rfl rfl 1 (by decide) (hts _ q6_195) (fun _ h9 => h9) (fl_get (by decide)) dX12_remainder_84 ?_
    refine lv_lload hx hb dX12_remainder_87 (lv_at hl 1 rfl) ?_
    obtain ⟨h_5, hF⟩ := grd_some hF
    refine lv_lrem hx hb dX12_remainder_89 (nzL_ok h_5) ?_
    refine lv_lstore (lv' := [(8, .long ((gL q_3 1) - (gL q_3 1) / (gL q_1 1) * (gL q_1 1))), (7, .int (gI q_1 2)), (5, .long (gL q_1 1)), (0, .ref hT), (1, .long x0), (3, .long x1)]) hx hb dX12_remainder_90 hl (by decide) rfl (fun ls hl => ?_)
    refine lv_aload_n hx hb dX12_remainder_92 rfl (lv_at hl 3 rfl) ?_
    refine va_get (D := D.1) (ci := 12) (v := .int (gI q_3 2)) (C := RX12) (T := TX12) (N := 114) hx hb hts wi_X12 hown X.1 X.2.1 0 rfl rfl 2 (by decide) (hts _ q6_196) (fun _ h9 => h9) (fl_get (by decide)) dX12_remainder_93 ?_
    refine lv_istore (lv' := [(10, .int (gI q_3 2)), (8, .long ((gL q_3 1) - (gL q_3 1) / (gL q_1 1) * (gL q_1 1))), (7, .int (gI q_1 2)), (5, .long (gL q_1 1)), (0, .ref hT), (1, .long x0), (3, .long x1)]) hx hb dX12_remainder_96 hl (by decide) rfl (fun ls hl => ?_)
    exact (kL_X12_remainder l D hT aT yT n n) C X (lv_sub hl [4, 3, 2, 1, 0] rfl) hF
  · replace hF := iF c hF
    refine lv_iload hx hb dX12_remainder_35 (lv_at hl 0 rfl) ?_
    refine lv_aload_n hx hb dX12_remainder_37 rfl (lv_at hl 2 rfl) ?_
    refine va_get (D := D.1) (ci := 12) (v := .int (gI q_3 2)) (C := RX12) (T := TX12) (N := 114) hx hb hts wi_X12 hown X.1 X.2.1 0 rfl rfl 2 (by decide) (hts _ q6_196) (fun _ h9 => h9) (fl_get (by decide)) dX12_remainder_38 ?_
    refine lv_isub hx hb dX12_remainder_41 ?_
    refine lv_istore (lv' := [(8, .int ((gI q_1 2) - (gI q_3 2))), (7, .int (gI q_1 2)), (5, .long (gL q_1 1)), (0, .ref hT), (1, .long x0), (3, .long x1)]) hx hb dX12_remainder_42 hl (by decide) rfl (fun ls hl => ?_)
    refine lv_iload hx hb dX12_remainder_44 (lv_at hl 0 rfl) ?_
    refine lv_bipush (v := (62 : Int32)) hx hb dX12_remainder_46 (by decide) ?_
    refine lv_lload hx hb dX12_remainder_48 (lv_at hl 2 rfl) ?_
    obtain ⟨q_8, hc_9, hF⟩ := bnd_some hF
    refine cS_i (As := [.long (gL q_1 1)]) (rest := [.int (62 : Int32), .int ((gI q_1 2) - (gI q_3 2))]) C X (c_X12_lengthOf l D  n (gL q_1 1) q_8 hc_9 _) (va_cwS 1 hts (good_S q8_131 q8_132 q1_9 q8_133) rfl rfl rfl (by decide +kernel) ⟨Nat.le_of_ble_eq_true rfl, Nat.le_of_ble_eq_true rfl⟩) (eK X) eP (eD (A := A)) (eF X) hl.1 rfl rfl (Nat.le_of_ble_eq_true rfl) dX12_remainder_50 ⟨Nat.le_of_ble_eq_true rfl, Nat.le_of_ble_eq_true rfl⟩ (fun t H1 locs1 ht hB hk hS => ?_)
    have X := Hx_after_none X hk hS
    clear hk hS ht hB
    generalize H1 = H at X ⊢
    generalize locs1 = locs at X ⊢
    refine lv_isub hx hb dX12_remainder_53 ?_
    refine lv_icmp_le (tgt := 59) hx hb dX12_remainder_54 (by decide) (fun c => ?_) (fun c => ?_)
    · replace hF := iT c hF
      refine lv_aload_n hx hb dX12_remainder_59 rfl (lv_at hl 3 rfl) ?_
      refine va_get (D := D.1) (ci := 12) (v := .int (gI q_3 0)) (C := RX12) (T := TX12) (N := 114) hx hb hts wi_X12 hown X.1 X.2.1 0 rfl rfl 0 (by decide) (hts _ q6_194) (fun _ h9 => h9) (fl_get (by decide)) dX12_remainder_60 ?_
      refine lv_aload_n hx hb dX12_remainder_63 rfl (lv_at hl 3 rfl) ?_
      refine va_get (D := D.1) (ci := 12) (v := .long (gL q_3 1)) (C := RX12) (T := TX12) (N := 114) hx hb hts wi_X12 hown X.1 X.2.1 0 rfl rfl 1 (by decide) (hts _ q6_195) (fun _ h9 => h9) (fl_get (by decide)) dX12_remainder_64 ?_
      refine lv_lload hx hb dX12_remainder_67 (lv_at hl 2 rfl) ?_
      refine lv_iload hx hb dX12_remainder_69 (lv_at hl 0 rfl) ?_
      refine lv_lshl hx hb dX12_remainder_71 rfl ?_
      obtain ⟨h_10, hF⟩ := grd_some hF
      refine lv_lrem hx hb dX12_remainder_72 (nzL_ok h_10) ?_
      refine lv_aload_n hx hb dX12_remainder_73 rfl (lv_at hl 3 rfl) ?_
      refine va_get (D := D.1) (ci := 12) (v := .int (gI q_3 2)) (C := RX12) (T := TX12) (N := 114) hx hb hts wi_X12 hown X.1 X.2.1 0 rfl rfl 2 (by decide) (hts _ q6_196) (fun _ h9 => h9) (fl_get (by decide)) dX12_remainder_74 ?_
      refine lv_bipush (v := (7 : Int32)) hx hb dX12_remainder_77 (by decide) ?_
      obtain ⟨q_11, hc_12, hF⟩ := bnd_some hF
      refine cS_l (As := [.int (gI q_3 0), .long ((gL q_3 1) - (gL q_3 1) / ((gL q_1 1) <<< (((gI q_1 2) - (gI q_3 2)).toInt64 &&& 63)) * ((gL q_1 1) <<< (((gI q_1 2) - (gI q_3 2)).toInt64 &&& 63))), .int (gI q_3 2), .int (7 : Int32)]) (rest := []) C X (c_X12_made l D  n (gI q_3 0) ((gL q_3 1) - (gL q_3 1) / ((gL q_1 1) <<< (((gI q_1 2) - (gI q_3 2)).toInt64 &&& 63)) * ((gL q_1 1) <<< (((gI q_1 2) - (gI q_3 2)).toInt64 &&& 63))) (gI q_3 2) (7 : Int32) q_11 hc_12 _) (va_cwS 4 hts (good_S q8_128 q8_129 q1_9 q8_130) rfl rfl rfl (by decide +kernel) ⟨Nat.le_of_ble_eq_true rfl, Nat.le_of_ble_eq_true rfl⟩) (eK X) eP (eD (A := A)) (eF X) hl.1 rfl rfl (Nat.le_of_ble_eq_true rfl) dX12_remainder_79 ⟨Nat.le_of_ble_eq_true rfl, Nat.le_of_ble_eq_true rfl⟩ (fun t H1 locs1 ht hB hk hS => ?_)
      have X := Hx_after_none X hk hS
      clear hk hS ht hB
      generalize H1 = H at X ⊢
      generalize locs1 = locs at X ⊢
      have hq := Option.some.inj hF
      subst hq
      exact rt_l C X dX12_remainder_82
    · replace hF := iF c hF
      refine lv_lload_n hx hb dX12_remainder_57 rfl (lv_at hl 4 rfl) ?_
      have hq := Option.some.inj hF
      subst hq
      exact rt_l C X dX12_remainder_58

/-! ### X12_common -/
theorem dX12_common_0 : decode cX12_common 0 = .ok (.lload_n 1, 1) := by decide +kernel
theorem dX12_common_1 : decode cX12_common 1 = .ok (.invokestatic 477, 3) := by decide +kernel
theorem dX12_common_4 : decode cX12_common 4 = .ok (.lstore 5, 2) := by decide +kernel
theorem dX12_common_6 : decode cX12_common 6 = .ok (.lload_n 3, 1) := by decide +kernel
theorem dX12_common_7 : decode cX12_common 7 = .ok (.invokestatic 477, 3) := by decide +kernel
theorem dX12_common_10 : decode cX12_common 10 = .ok (.lstore 7, 2) := by decide +kernel
theorem dX12_common_12 : decode cX12_common 12 = .ok (.lload 7, 2) := by decide +kernel
theorem dX12_common_14 : decode cX12_common 14 = .ok (.lconst 0, 1) := by decide +kernel
theorem dX12_common_15 : decode cX12_common 15 = .ok (.lcmp, 1) := by decide +kernel
theorem dX12_common_16 : decode cX12_common 16 = .ok (.ifCond .eq 24, 3) := by decide +kernel
theorem dX12_common_19 : decode cX12_common 19 = .ok (.aload_n 0, 1) := by decide +kernel
theorem dX12_common_20 : decode cX12_common 20 = .ok (.lload 5, 2) := by decide +kernel
theorem dX12_common_22 : decode cX12_common 22 = .ok (.lload 7, 2) := by decide +kernel
theorem dX12_common_24 : decode cX12_common 24 = .ok (.invokevirtual 481, 3) := by decide +kernel
theorem dX12_common_27 : decode cX12_common 27 = .ok (.lstore 9, 2) := by decide +kernel
theorem dX12_common_29 : decode cX12_common 29 = .ok (.lload 7, 2) := by decide +kernel
theorem dX12_common_31 : decode cX12_common 31 = .ok (.lstore 5, 2) := by decide +kernel
theorem dX12_common_33 : decode cX12_common 33 = .ok (.lload 9, 2) := by decide +kernel
theorem dX12_common_35 : decode cX12_common 35 = .ok (.lstore 7, 2) := by decide +kernel
theorem dX12_common_37 : decode cX12_common 37 = .ok (.goto (-25), 3) := by decide +kernel
theorem dX12_common_40 : decode cX12_common 40 = .ok (.lload 5, 2) := by decide +kernel
theorem dX12_common_42 : decode cX12_common 42 = .ok (.lreturn, 1) := by decide +kernel
abbrev R_X12_common : Room := ({ frames := 3, cells := 0, slots := 0, locals := 88 } : Room)
def h_X12_common_12 (n : Nat) (rec : (Gs → Int64 → Int64 → Option (Int64 × Gs))) (gT : Gs) (v5 : Int64) (v7 : Int64) : Option (Int64 × Gs) :=
  if v7 = (0 : Int64) then (some (v5, gT)) else (bnd (f_X12_remainder n gT v5 v7) (fun q_5 => rec q_5.2 v7 q_5.1))
def L_X12_common (n : Nat) : Nat → (Gs → Int64 → Int64 → Option (Int64 × Gs))
  | 0 => ((fun _ _ _ => none))
  | k + 1 => (h_X12_common_12 n (L_X12_common n k))
def f_X12_common (n : Nat) (gT : Gs) (x0 : Int64) (x1 : Int64) : Option (Int64 × Gs) :=
  bnd (f_X12_withoutSign x0) (fun q_1 => bnd (f_X12_withoutSign x1) (fun q_3 => (L_X12_common n n) gT q_1 q_3))
def S_X12_common_12 (l : Launch) (D : Dx) (hT : Nat) (aT : Nat → Nat) (yT : Nat → ClassId) (fn : Gs → Int64 → Int64 → Option (Int64 × Gs)) : Prop :=
  ∀ {p : Program} {e : Env} {s : State} {m : MethodId} {args : Array Value} {below : List Frame} {meth : Method} {c : Code} {H : Heap} {locs : List Loc} {A : Nat → Prop} {ls : Array Slot} {gT : Gs} {v5 : Int64} {v7 : Int64} {q : Int64 × Gs}, Cx p s m args meth c cX12_common (some .long) 11 RX12 lw_all → Hx D (tX12 yT) A s H locs (wX12 hT aT yT gT) → lv_has ls 11 [(0, .ref hT), (5, .long v5), (7, .long v7)] → fn gT v5 v7 = some q → W p l e R_X12_common s m args below meth c H locs 0 0 (MQ below (QL D A (wX12 hT aT yT q.2) q.1) args s 0 0 A) (F0 m 12 ls [])
def SH_X12_common (l : Launch) (D : Dx) (hT : Nat) (aT : Nat → Nat) (yT : Nat → ClassId) (rec : (Gs → Int64 → Int64 → Option (Int64 × Gs))) : Prop := S_X12_common_12 l D hT aT yT rec
set_option maxHeartbeats 4000000 in
set_option maxRecDepth 100000 in
theorem k_X12_common_12 (l : Launch) (D : Dx) (hT : Nat) (aT : Nat → Nat) (yT : Nat → ClassId) (n : Nat) (rec : (Gs → Int64 → Int64 → Option (Int64 × Gs))) (IH : SH_X12_common l D hT aT yT rec) : S_X12_common_12 l D hT aT yT (h_X12_common_12 n rec) := by
  intro p e s m args below meth c H locs A ls gT v5 v7 q C X hl hF
  obtain ⟨hx, hb, hr, hml, hown, hts, hlk⟩ := id C
  unfold h_X12_common_12 at hF
  refine lv_lload hx hb dX12_common_12 (lv_at hl 2 rfl) ?_
  refine lv_lconst (v := (0 : Int64)) hx hb dX12_common_14 (by decide) ?_
  refine W.lcmp hx hb dX12_common_15 ?_
  refine lv_if_eq (tgt := 40) hx hb dX12_common_16 (by decide) (fun c => ?_) (fun c => ?_)
  · have c := (lg_cmp_eq _ _).mp c
    replace hF := iT c hF
    refine lv_lload hx hb dX12_common_40 (lv_at hl 1 rfl) ?_
    have hq := Option.some.inj hF
    subst hq
    exact rt_l C X dX12_common_42
  · have c := fun h => c ((lg_cmp_eq _ _).mpr h)
    replace hF := iF c hF
    refine lv_aload_n hx hb dX12_common_19 rfl (lv_at hl 0 rfl) ?_
    refine lv_lload hx hb dX12_common_20 (lv_at hl 1 rfl) ?_
    refine lv_lload hx hb dX12_common_22 (lv_at hl 2 rfl) ?_
    obtain ⟨q_5, hc_6, hF⟩ := bnd_some hF
    refine cV_l (As := [.long v5, .long v7]) (rest := []) C X (c_X12_remainder l D hT aT yT n gT v5 v7 q_5 hc_6 _) (cwV 2 hts (good_V q9_92 q9_94 q0_114 q1_9 q9_95) rfl rfl rfl (by decide +kernel) ⟨Nat.le_of_ble_eq_true rfl, Nat.le_of_ble_eq_true rfl⟩) (va_recv X.1 X.2.1 (ci := 12) (q0 := 0) rfl rfl) X.1 X.2.1 X.2.2.1 (free_all X) hl.1 rfl rfl (Nat.le_of_ble_eq_true rfl) dX12_common_24 ⟨Nat.le_of_ble_eq_true rfl, Nat.le_of_ble_eq_true rfl⟩ (fun t H1 locs1 ht hB hk hS => ?_)
    have X : Hx D (tX12 yT) A s H1 locs1 (wX12 hT aT yT q_5.2) := Hx_after_all X ht hB hS
    clear hk hS ht hB
    generalize H1 = H at X ⊢
    generalize locs1 = locs at X ⊢
    refine lv_lstore (lv' := [(9, .long q_5.1), (0, .ref hT), (5, .long v5), (7, .long v7)]) hx hb dX12_common_27 hl (by decide) rfl (fun ls hl => ?_)
    refine lv_lload hx hb dX12_common_29 (lv_at hl 3 rfl) ?_
    refine lv_lstore (lv' := [(5, .long v7), (9, .long q_5.1), (0, .ref hT), (7, .long v7)]) hx hb dX12_common_31 hl (by decide) rfl (fun ls hl => ?_)
    refine lv_lload hx hb dX12_common_33 (lv_at hl 1 rfl) ?_
    refine lv_lstore (lv' := [(7, .long q_5.1), (5, .long v7), (9, .long q_5.1), (0, .ref hT)]) hx hb dX12_common_35 hl (by decide) rfl (fun ls hl => ?_)
    refine lv_goto (tgt := 12) hx hb dX12_common_37 (by decide) ?_
    exact IH C X (lv_sub hl [3, 1, 0] rfl) hF
theorem kL_X12_common (l : Launch) (D : Dx) (hT : Nat) (aT : Nat → Nat) (yT : Nat → ClassId) (n : Nat) : ∀ k, SH_X12_common l D hT aT yT (L_X12_common n k)
  | 0 => fun _ _ _ h => by cases h
  | k + 1 => k_X12_common_12 l D hT aT yT n _ (kL_X12_common l D hT aT yT n k)
set_option maxHeartbeats 4000000 in
set_option maxRecDepth 100000 in
theorem c_X12_common (l : Launch) (D : Dx) (hT : Nat) (aT : Nat → Nat) (yT : Nat → ClassId) (n : Nat) (gT : Gs) (x0 : Int64) (x1 : Int64) (q : Int64 × Gs) (hF : f_X12_common n gT x0 x1 = some q) (sz : Nat) : Met l yX12_common (ws_ yX12_common cX12_common 11 (some .long)) R_X12_common (PC D (tX12 yT) [.ref hT, .long x0, .long x1] (wX12 hT aT yT gT) sz) (QL D (va_A (wX12 hT aT yT gT) sz) (wX12 hT aT yT q.2) q.1) 0 0 (va_A (wX12 hT aT yT gT) sz) := by
  refine Met.ofW (cc := cX12_common) (maxL := 11) (ret := (some .long)) (by decide) rfl ?_
  intro p e s m args below meth c s₁ B hml hv
  obtain ⟨rfl, hsz, hP, hK, hD, hN⟩ := hv
  subst hsz
  have C : Cx p s m _ meth c cX12_common (some .long) 11 RX12 lw_all := Cx_of B hml
  have X := Hx_start hP hK hD hN
  obtain ⟨hx, hb, hr, -, hown, hts, hlk⟩ := id C
  generalize va_A (wX12 hT aT yT gT) s.heap.size = A at X ⊢
  have hl := lv_entry ([.ref hT, .long x0, .long x1]) (n := 11) (Nat.le_of_ble_eq_true rfl)
  rw [lg_entry_eq]
  generalize (lg_sl ([.ref hT, .long x0, .long x1]) ++ List.replicate (11 - (lg_sl ([.ref hT, .long x0, .long x1])).length) Slot.unset).toArray = ls at hl ⊢
  have hl : lv_has ls 11 [(0, .ref hT), (1, .long x0), (3, .long x1)] := hl
  unfold f_X12_common at hF
  refine lv_lload_n hx hb dX12_common_0 rfl (lv_at hl 1 rfl) ?_
  obtain ⟨q_1, hc_2, hF⟩ := bnd_some hF
  refine cS_l (As := [.long x0]) (rest := []) C X (c_X12_withoutSign l D  x0 q_1 hc_2 _) (va_cwS 1 hts (good_S q9_89 q9_90 q1_9 q9_91) rfl rfl rfl (by decide +kernel) ⟨Nat.le_of_ble_eq_true rfl, Nat.le_of_ble_eq_true rfl⟩) (eK X) eP (eD (A := A)) (eF X) hl.1 rfl rfl (Nat.le_of_ble_eq_true rfl) dX12_common_1 ⟨Nat.le_of_ble_eq_true rfl, Nat.le_of_ble_eq_true rfl⟩ (fun t H1 locs1 ht hB hk hS => ?_)
  have X := Hx_after_none X hk hS
  clear hk hS ht hB
  generalize H1 = H at X ⊢
  generalize locs1 = locs at X ⊢
  refine lv_lstore (lv' := [(5, .long q_1), (0, .ref hT), (1, .long x0), (3, .long x1)]) hx hb dX12_common_4 hl (by decide) rfl (fun ls hl => ?_)
  refine lv_lload_n hx hb dX12_common_6 rfl (lv_at hl 3 rfl) ?_
  obtain ⟨q_3, hc_4, hF⟩ := bnd_some hF
  refine cS_l (As := [.long x1]) (rest := []) C X (c_X12_withoutSign l D  x1 q_3 hc_4 _) (va_cwS 1 hts (good_S q9_89 q9_90 q1_9 q9_91) rfl rfl rfl (by decide +kernel) ⟨Nat.le_of_ble_eq_true rfl, Nat.le_of_ble_eq_true rfl⟩) (eK X) eP (eD (A := A)) (eF X) hl.1 rfl rfl (Nat.le_of_ble_eq_true rfl) dX12_common_7 ⟨Nat.le_of_ble_eq_true rfl, Nat.le_of_ble_eq_true rfl⟩ (fun t H1 locs1 ht hB hk hS => ?_)
  have X := Hx_after_none X hk hS
  clear hk hS ht hB
  generalize H1 = H at X ⊢
  generalize locs1 = locs at X ⊢
  refine lv_lstore (lv' := [(7, .long q_3), (5, .long q_1), (0, .ref hT), (1, .long x0), (3, .long x1)]) hx hb dX12_common_10 hl (by decide) rfl (fun ls hl => ?_)
  exact (kL_X12_common l D hT aT yT n n) C X (lv_sub hl [2, 1, 0] rfl) hF

/-! ### X12_evened -/
theorem dX12_evened_0 : decode cX12_evened 0 = .ok (.aload_n 0, 1) := by decide +kernel
theorem dX12_evened_1 : decode cX12_evened 1 = .ok (.lload_n 1, 1) := by decide +kernel
theorem dX12_evened_2 : decode cX12_evened 2 = .ok (.bipush 7, 2) := by decide +kernel
theorem dX12_evened_4 : decode cX12_evened 4 = .ok (.invokevirtual 432, 3) := by decide +kernel
theorem dX12_evened_7 : decode cX12_evened 7 = .ok (.aload_n 0, 1) := by decide +kernel
theorem dX12_evened_8 : decode cX12_evened 8 = .ok (.getfield 413, 3) := by decide +kernel
theorem dX12_evened_11 : decode cX12_evened 11 = .ok (.ifCond .ge 12, 3) := by decide +kernel
theorem dX12_evened_14 : decode cX12_evened 14 = .ok (.aload_n 0, 1) := by decide +kernel
theorem dX12_evened_15 : decode cX12_evened 15 = .ok (.getfield 408, 3) := by decide +kernel
theorem dX12_evened_18 : decode cX12_evened 18 = .ok (.lconst 0, 1) := by decide +kernel
theorem dX12_evened_19 : decode cX12_evened 19 = .ok (.lcmp, 1) := by decide +kernel
theorem dX12_evened_20 : decode cX12_evened 20 = .ok (.ifCond .ne 5, 3) := by decide +kernel
theorem dX12_evened_23 : decode cX12_evened 23 = .ok (.lload_n 1, 1) := by decide +kernel
theorem dX12_evened_24 : decode cX12_evened 24 = .ok (.lreturn, 1) := by decide +kernel
theorem dX12_evened_25 : decode cX12_evened 25 = .ok (.aload_n 0, 1) := by decide +kernel
theorem dX12_evened_26 : decode cX12_evened 26 = .ok (.getfield 413, 3) := by decide +kernel
theorem dX12_evened_29 : decode cX12_evened 29 = .ok (.ineg, 1) := by decide +kernel
theorem dX12_evened_30 : decode cX12_evened 30 = .ok (.istore 4, 2) := by decide +kernel
theorem dX12_evened_32 : decode cX12_evened 32 = .ok (.iload 4, 2) := by decide +kernel
theorem dX12_evened_34 : decode cX12_evened 34 = .ok (.bipush 62, 2) := by decide +kernel
theorem dX12_evened_36 : decode cX12_evened 36 = .ok (.if_icmp .le 7, 3) := by decide +kernel
theorem dX12_evened_39 : decode cX12_evened 39 = .ok (.lconst 0, 1) := by decide +kernel
theorem dX12_evened_40 : decode cX12_evened 40 = .ok (.goto 10, 3) := by decide +kernel
theorem dX12_evened_43 : decode cX12_evened 43 = .ok (.aload_n 0, 1) := by decide +kernel
theorem dX12_evened_44 : decode cX12_evened 44 = .ok (.getfield 408, 3) := by decide +kernel
theorem dX12_evened_47 : decode cX12_evened 47 = .ok (.iload 4, 2) := by decide +kernel
theorem dX12_evened_49 : decode cX12_evened 49 = .ok (.lshr, 1) := by decide +kernel
theorem dX12_evened_50 : decode cX12_evened 50 = .ok (.lstore 5, 2) := by decide +kernel
theorem dX12_evened_52 : decode cX12_evened 52 = .ok (.iload 4, 2) := by decide +kernel
theorem dX12_evened_54 : decode cX12_evened 54 = .ok (.bipush 62, 2) := by decide +kernel
theorem dX12_evened_56 : decode cX12_evened 56 = .ok (.if_icmp .gt 19, 3) := by decide +kernel
theorem dX12_evened_59 : decode cX12_evened 59 = .ok (.aload_n 0, 1) := by decide +kernel
theorem dX12_evened_60 : decode cX12_evened 60 = .ok (.getfield 408, 3) := by decide +kernel
theorem dX12_evened_63 : decode cX12_evened 63 = .ok (.lconst 1, 1) := by decide +kernel
theorem dX12_evened_64 : decode cX12_evened 64 = .ok (.iload 4, 2) := by decide +kernel
theorem dX12_evened_66 : decode cX12_evened 66 = .ok (.lshl, 1) := by decide +kernel
theorem dX12_evened_67 : decode cX12_evened 67 = .ok (.lconst 1, 1) := by decide +kernel
theorem dX12_evened_68 : decode cX12_evened 68 = .ok (.lsub, 1) := by decide +kernel
theorem dX12_evened_69 : decode cX12_evened 69 = .ok (.land, 1) := by decide +kernel
theorem dX12_evened_70 : decode cX12_evened 70 = .ok (.lconst 0, 1) := by decide +kernel
theorem dX12_evened_71 : decode cX12_evened 71 = .ok (.lcmp, 1) := by decide +kernel
theorem dX12_evened_72 : decode cX12_evened 72 = .ok (.ifCond .eq 7, 3) := by decide +kernel
theorem dX12_evened_75 : decode cX12_evened 75 = .ok (.iconst 1, 1) := by decide +kernel
theorem dX12_evened_76 : decode cX12_evened 76 = .ok (.goto 4, 3) := by decide +kernel
theorem dX12_evened_79 : decode cX12_evened 79 = .ok (.iconst 0, 1) := by decide +kernel
theorem dX12_evened_80 : decode cX12_evened 80 = .ok (.istore 7, 2) := by decide +kernel
theorem dX12_evened_82 : decode cX12_evened 82 = .ok (.iload 7, 2) := by decide +kernel
theorem dX12_evened_84 : decode cX12_evened 84 = .ok (.ifCond .eq 28, 3) := by decide +kernel
theorem dX12_evened_87 : decode cX12_evened 87 = .ok (.iload_n 3, 1) := by decide +kernel
theorem dX12_evened_88 : decode cX12_evened 88 = .ok (.ifCond .ne 13, 3) := by decide +kernel
theorem dX12_evened_91 : decode cX12_evened 91 = .ok (.aload_n 0, 1) := by decide +kernel
theorem dX12_evened_92 : decode cX12_evened 92 = .ok (.getfield 403, 3) := by decide +kernel
theorem dX12_evened_95 : decode cX12_evened 95 = .ok (.ifCond .eq 17, 3) := by decide +kernel
theorem dX12_evened_98 : decode cX12_evened 98 = .ok (.goto 10, 3) := by decide +kernel
theorem dX12_evened_101 : decode cX12_evened 101 = .ok (.aload_n 0, 1) := by decide +kernel
theorem dX12_evened_102 : decode cX12_evened 102 = .ok (.getfield 403, 3) := by decide +kernel
theorem dX12_evened_105 : decode cX12_evened 105 = .ok (.ifCond .ne 7, 3) := by decide +kernel
theorem dX12_evened_108 : decode cX12_evened 108 = .ok (.iconst 1, 1) := by decide +kernel
theorem dX12_evened_109 : decode cX12_evened 109 = .ok (.goto 4, 3) := by decide +kernel
theorem dX12_evened_112 : decode cX12_evened 112 = .ok (.iconst 0, 1) := by decide +kernel
theorem dX12_evened_113 : decode cX12_evened 113 = .ok (.istore 8, 2) := by decide +kernel
theorem dX12_evened_115 : decode cX12_evened 115 = .ok (.iload_n 3, 1) := by decide +kernel
theorem dX12_evened_116 : decode cX12_evened 116 = .ok (.iconst 2, 1) := by decide +kernel
theorem dX12_evened_117 : decode cX12_evened 117 = .ok (.if_icmp .ne 85, 3) := by decide +kernel
theorem dX12_evened_120 : decode cX12_evened 120 = .ok (.iload 4, 2) := by decide +kernel
theorem dX12_evened_122 : decode cX12_evened 122 = .ok (.bipush 62, 2) := by decide +kernel
theorem dX12_evened_124 : decode cX12_evened 124 = .ok (.if_icmp .le 7, 3) := by decide +kernel
theorem dX12_evened_127 : decode cX12_evened 127 = .ok (.lconst 0, 1) := by decide +kernel
theorem dX12_evened_128 : decode cX12_evened 128 = .ok (.goto 9, 3) := by decide +kernel
theorem dX12_evened_131 : decode cX12_evened 131 = .ok (.lconst 1, 1) := by decide +kernel
theorem dX12_evened_132 : decode cX12_evened 132 = .ok (.iload 4, 2) := by decide +kernel
theorem dX12_evened_134 : decode cX12_evened 134 = .ok (.iconst 1, 1) := by decide +kernel
theorem dX12_evened_135 : decode cX12_evened 135 = .ok (.isub, 1) := by decide +kernel
theorem dX12_evened_136 : decode cX12_evened 136 = .ok (.lshl, 1) := by decide +kernel
theorem dX12_evened_137 : decode cX12_evened 137 = .ok (.lstore 9, 2) := by decide +kernel
theorem dX12_evened_139 : decode cX12_evened 139 = .ok (.iload 4, 2) := by decide +kernel
theorem dX12_evened_141 : decode cX12_evened 141 = .ok (.bipush 62, 2) := by decide +kernel
theorem dX12_evened_143 : decode cX12_evened 143 = .ok (.if_icmp .le 7, 3) := by decide +kernel
theorem dX12_evened_146 : decode cX12_evened 146 = .ok (.lconst 0, 1) := by decide +kernel
theorem dX12_evened_147 : decode cX12_evened 147 = .ok (.goto 14, 3) := by decide +kernel
theorem dX12_evened_150 : decode cX12_evened 150 = .ok (.aload_n 0, 1) := by decide +kernel
theorem dX12_evened_151 : decode cX12_evened 151 = .ok (.getfield 408, 3) := by decide +kernel
theorem dX12_evened_154 : decode cX12_evened 154 = .ok (.lconst 1, 1) := by decide +kernel
theorem dX12_evened_155 : decode cX12_evened 155 = .ok (.iload 4, 2) := by decide +kernel
theorem dX12_evened_157 : decode cX12_evened 157 = .ok (.lshl, 1) := by decide +kernel
theorem dX12_evened_158 : decode cX12_evened 158 = .ok (.lconst 1, 1) := by decide +kernel
theorem dX12_evened_159 : decode cX12_evened 159 = .ok (.lsub, 1) := by decide +kernel
theorem dX12_evened_160 : decode cX12_evened 160 = .ok (.land, 1) := by decide +kernel
theorem dX12_evened_161 : decode cX12_evened 161 = .ok (.lstore 11, 2) := by decide +kernel
theorem dX12_evened_163 : decode cX12_evened 163 = .ok (.iload 4, 2) := by decide +kernel
theorem dX12_evened_165 : decode cX12_evened 165 = .ok (.bipush 62, 2) := by decide +kernel
theorem dX12_evened_167 : decode cX12_evened 167 = .ok (.if_icmp .gt 32, 3) := by decide +kernel
theorem dX12_evened_170 : decode cX12_evened 170 = .ok (.lload 11, 2) := by decide +kernel
theorem dX12_evened_172 : decode cX12_evened 172 = .ok (.lload 9, 2) := by decide +kernel
theorem dX12_evened_174 : decode cX12_evened 174 = .ok (.lcmp, 1) := by decide +kernel
theorem dX12_evened_175 : decode cX12_evened 175 = .ok (.ifCond .gt 20, 3) := by decide +kernel
theorem dX12_evened_178 : decode cX12_evened 178 = .ok (.lload 11, 2) := by decide +kernel
theorem dX12_evened_180 : decode cX12_evened 180 = .ok (.lload 9, 2) := by decide +kernel
theorem dX12_evened_182 : decode cX12_evened 182 = .ok (.lcmp, 1) := by decide +kernel
theorem dX12_evened_183 : decode cX12_evened 183 = .ok (.ifCond .ne 16, 3) := by decide +kernel
theorem dX12_evened_186 : decode cX12_evened 186 = .ok (.lload 5, 2) := by decide +kernel
theorem dX12_evened_188 : decode cX12_evened 188 = .ok (.lconst 1, 1) := by decide +kernel
theorem dX12_evened_189 : decode cX12_evened 189 = .ok (.land, 1) := by decide +kernel
theorem dX12_evened_190 : decode cX12_evened 190 = .ok (.lconst 1, 1) := by decide +kernel
theorem dX12_evened_191 : decode cX12_evened 191 = .ok (.lcmp, 1) := by decide +kernel
theorem dX12_evened_192 : decode cX12_evened 192 = .ok (.ifCond .ne 7, 3) := by decide +kernel
theorem dX12_evened_195 : decode cX12_evened 195 = .ok (.iconst 1, 1) := by decide +kernel
theorem dX12_evened_196 : decode cX12_evened 196 = .ok (.goto 4, 3) := by decide +kernel
theorem dX12_evened_199 : decode cX12_evened 199 = .ok (.iconst 0, 1) := by decide +kernel
theorem dX12_evened_200 : decode cX12_evened 200 = .ok (.istore 8, 2) := by decide +kernel
theorem dX12_evened_202 : decode cX12_evened 202 = .ok (.iload 8, 2) := by decide +kernel
theorem dX12_evened_204 : decode cX12_evened 204 = .ok (.ifCond .eq 9, 3) := by decide +kernel
theorem dX12_evened_207 : decode cX12_evened 207 = .ok (.lload 5, 2) := by decide +kernel
theorem dX12_evened_209 : decode cX12_evened 209 = .ok (.lconst 1, 1) := by decide +kernel
theorem dX12_evened_210 : decode cX12_evened 210 = .ok (.ladd, 1) := by decide +kernel
theorem dX12_evened_211 : decode cX12_evened 211 = .ok (.lstore 5, 2) := by decide +kernel
theorem dX12_evened_213 : decode cX12_evened 213 = .ok (.aload_n 0, 1) := by decide +kernel
theorem dX12_evened_214 : decode cX12_evened 214 = .ok (.getfield 403, 3) := by decide +kernel
theorem dX12_evened_217 : decode cX12_evened 217 = .ok (.lload 5, 2) := by decide +kernel
theorem dX12_evened_219 : decode cX12_evened 219 = .ok (.iconst 0, 1) := by decide +kernel
theorem dX12_evened_220 : decode cX12_evened 220 = .ok (.bipush 7, 2) := by decide +kernel
theorem dX12_evened_222 : decode cX12_evened 222 = .ok (.invokestatic 458, 3) := by decide +kernel
theorem dX12_evened_225 : decode cX12_evened 225 = .ok (.lreturn, 1) := by decide +kernel
abbrev R_X12_evened : Room := ({ frames := 2, cells := 0, slots := 0, locals := 58 } : Room)
def b_X12_evened_213 (n : Nat) (gT : Gs) (v5 : Int64) : Option (Int64 × Gs) :=
  bnd (f_X12_made n (gI gT 0) v5 (0 : Int32) (7 : Int32)) (fun q_3 => some (q_3, gT))
def b_X12_evened_202 (n : Nat) (gT : Gs) (v5 : Int64) (v8 : Int32) : Option (Int64 × Gs) :=
  if v8 = 0 then (b_X12_evened_213 n gT v5) else (b_X12_evened_213 n gT (v5 + (1 : Int64)))
def b_X12_evened_200 (n : Nat) (gT : Gs) (v5 : Int64) (s0 : Int32) : Option (Int64 × Gs) :=
  b_X12_evened_202 n gT v5 s0
def b_X12_evened_199 (n : Nat) (gT : Gs) (v5 : Int64) : Option (Int64 × Gs) :=
  b_X12_evened_200 n gT v5 (0 : Int32)
def b_X12_evened_195 (n : Nat) (gT : Gs) (v5 : Int64) : Option (Int64 × Gs) :=
  b_X12_evened_200 n gT v5 (1 : Int32)
def b_X12_evened_161 (n : Nat) (gT : Gs) (v4 : Int32) (v5 : Int64) (v9 : Int64) (s0 : Int64) : Option (Int64 × Gs) :=
  if (62 : Int32) < v4 then (b_X12_evened_199 n gT v5) else (if v9 < s0 then (b_X12_evened_195 n gT v5) else (if s0 = v9 then (if (v5 &&& (1 : Int64)) = (1 : Int64) then (b_X12_evened_195 n gT v5) else (b_X12_evened_199 n gT v5)) else (b_X12_evened_199 n gT v5)))
def b_X12_evened_137 (n : Nat) (gT : Gs) (v4 : Int32) (v5 : Int64) (s0 : Int64) : Option (Int64 × Gs) :=
  if v4 ≤ (62 : Int32) then (b_X12_evened_161 n gT v4 v5 s0 ((gL gT 1) &&& (((1 : Int64) <<< (v4.toInt64 &&& 63)) - (1 : Int64)))) else (b_X12_evened_161 n gT v4 v5 s0 (0 : Int64))
def b_X12_evened_113 (n : Nat) (gT : Gs) (v3 : Int32) (v4 : Int32) (v5 : Int64) (s0 : Int32) : Option (Int64 × Gs) :=
  if v3 = (2 : Int32) then (if v4 ≤ (62 : Int32) then (b_X12_evened_137 n gT v4 v5 ((1 : Int64) <<< ((v4 - (1 : Int32)).toInt64 &&& 63))) else (b_X12_evened_137 n gT v4 v5 (0 : Int64))) else (b_X12_evened_202 n gT v5 s0)
def b_X12_evened_112 (n : Nat) (gT : Gs) (v3 : Int32) (v4 : Int32) (v5 : Int64) : Option (Int64 × Gs) :=
  b_X12_evened_113 n gT v3 v4 v5 (0 : Int32)
def b_X12_evened_108 (n : Nat) (gT : Gs) (v3 : Int32) (v4 : Int32) (v5 : Int64) : Option (Int64 × Gs) :=
  b_X12_evened_113 n gT v3 v4 v5 (1 : Int32)
def b_X12_evened_80 (n : Nat) (gT : Gs) (v3 : Int32) (v4 : Int32) (v5 : Int64) (s0 : Int32) : Option (Int64 × Gs) :=
  if s0 = 0 then (b_X12_evened_112 n gT v3 v4 v5) else (if v3 = 0 then (if (gI gT 0) = 0 then (b_X12_evened_112 n gT v3 v4 v5) else (b_X12_evened_108 n gT v3 v4 v5)) else (if (gI gT 0) = 0 then (b_X12_evened_108 n gT v3 v4 v5) else (b_X12_evened_112 n gT v3 v4 v5)))
def b_X12_evened_75 (n : Nat) (gT : Gs) (v3 : Int32) (v4 : Int32) (v5 : Int64) : Option (Int64 × Gs) :=
  b_X12_evened_80 n gT v3 v4 v5 (1 : Int32)
def b_X12_evened_50 (n : Nat) (gT : Gs) (v3 : Int32) (v4 : Int32) (s0 : Int64) : Option (Int64 × Gs) :=
  if (62 : Int32) < v4 then (b_X12_evened_75 n gT v3 v4 s0) else (if ((gL gT 1) &&& (((1 : Int64) <<< (v4.toInt64 &&& 63)) - (1 : Int64))) = (0 : Int64) then (b_X12_evened_80 n gT v3 v4 s0 (0 : Int32)) else (b_X12_evened_75 n gT v3 v4 s0))
def f_X12_evened (n : Nat) (gT : Gs) (x0 : Int64) (x1 : Int32) : Option (Int64 × Gs) :=
  bnd (f_X12_open gT x0 (7 : Int32)) (fun q_1 => if 0 ≤ (gI q_1 2) then (some (x0, q_1)) else (if (gL q_1 1) = (0 : Int64) then (some (x0, q_1)) else (if (-(gI q_1 2)) ≤ (62 : Int32) then (b_X12_evened_50 n q_1 x1 (-(gI q_1 2)) ((gL q_1 1) >>> ((-(gI q_1 2)).toInt64 &&& 63))) else (b_X12_evened_50 n q_1 x1 (-(gI q_1 2)) (0 : Int64)))))
def S_X12_evened_213 (l : Launch) (D : Dx) (hT : Nat) (aT : Nat → Nat) (yT : Nat → ClassId) (fn : Gs → Int64 → Option (Int64 × Gs)) : Prop :=
  ∀ {p : Program} {e : Env} {s : State} {m : MethodId} {args : Array Value} {below : List Frame} {meth : Method} {c : Code} {H : Heap} {locs : List Loc} {A : Nat → Prop} {ls : Array Slot} {gT : Gs} {v5 : Int64} {q : Int64 × Gs}, Cx p s m args meth c cX12_evened (some .long) 13 RX12 lw_all → Hx D (tX12 yT) A s H locs (wX12 hT aT yT gT) → lv_has ls 13 [(0, .ref hT), (5, .long v5)] → fn gT v5 = some q → W p l e R_X12_evened s m args below meth c H locs 0 0 (MQ below (QL D A (wX12 hT aT yT q.2) q.1) args s 0 0 A) (F0 m 213 ls [])
def S_X12_evened_202 (l : Launch) (D : Dx) (hT : Nat) (aT : Nat → Nat) (yT : Nat → ClassId) (fn : Gs → Int64 → Int32 → Option (Int64 × Gs)) : Prop :=
  ∀ {p : Program} {e : Env} {s : State} {m : MethodId} {args : Array Value} {below : List Frame} {meth : Method} {c : Code} {H : Heap} {locs : List Loc} {A : Nat → Prop} {ls : Array Slot} {gT : Gs} {v5 : Int64} {v8 : Int32} {q : Int64 × Gs}, Cx p s m args meth c cX12_evened (some .long) 13 RX12 lw_all → Hx D (tX12 yT) A s H locs (wX12 hT aT yT gT) → lv_has ls 13 [(0, .ref hT), (5, .long v5), (8, .int v8)] → fn gT v5 v8 = some q → W p l e R_X12_evened s m args below meth c H locs 0 0 (MQ below (QL D A (wX12 hT aT yT q.2) q.1) args s 0 0 A) (F0 m 202 ls [])
def S_X12_evened_200 (l : Launch) (D : Dx) (hT : Nat) (aT : Nat → Nat) (yT : Nat → ClassId) (fn : Gs → Int64 → Int32 → Option (Int64 × Gs)) : Prop :=
  ∀ {p : Program} {e : Env} {s : State} {m : MethodId} {args : Array Value} {below : List Frame} {meth : Method} {c : Code} {H : Heap} {locs : List Loc} {A : Nat → Prop} {ls : Array Slot} {gT : Gs} {v5 : Int64} {s0 : Int32} {q : Int64 × Gs}, Cx p s m args meth c cX12_evened (some .long) 13 RX12 lw_all → Hx D (tX12 yT) A s H locs (wX12 hT aT yT gT) → lv_has ls 13 [(0, .ref hT), (5, .long v5)] → fn gT v5 s0 = some q → W p l e R_X12_evened s m args below meth c H locs 0 0 (MQ below (QL D A (wX12 hT aT yT q.2) q.1) args s 0 0 A) (F0 m 200 ls [.int s0])
def S_X12_evened_199 (l : Launch) (D : Dx) (hT : Nat) (aT : Nat → Nat) (yT : Nat → ClassId) (fn : Gs → Int64 → Option (Int64 × Gs)) : Prop :=
  ∀ {p : Program} {e : Env} {s : State} {m : MethodId} {args : Array Value} {below : List Frame} {meth : Method} {c : Code} {H : Heap} {locs : List Loc} {A : Nat → Prop} {ls : Array Slot} {gT : Gs} {v5 : Int64} {q : Int64 × Gs}, Cx p s m args meth c cX12_evened (some .long) 13 RX12 lw_all → Hx D (tX12 yT) A s H locs (wX12 hT aT yT gT) → lv_has ls 13 [(0, .ref hT), (5, .long v5)] → fn gT v5 = some q → W p l e R_X12_evened s m args below meth c H locs 0 0 (MQ below (QL D A (wX12 hT aT yT q.2) q.1) args s 0 0 A) (F0 m 199 ls [])
def S_X12_evened_195 (l : Launch) (D : Dx) (hT : Nat) (aT : Nat → Nat) (yT : Nat → ClassId) (fn : Gs → Int64 → Option (Int64 × Gs)) : Prop :=
  ∀ {p : Program} {e : Env} {s : State} {m : MethodId} {args : Array Value} {below : List Frame} {meth : Method} {c : Code} {H : Heap} {locs : List Loc} {A : Nat → Prop} {ls : Array Slot} {gT : Gs} {v5 : Int64} {q : Int64 × Gs}, Cx p s m args meth c cX12_evened (some .long) 13 RX12 lw_all → Hx D (tX12 yT) A s H locs (wX12 hT aT yT gT) → lv_has ls 13 [(0, .ref hT), (5, .long v5)] → fn gT v5 = some q → W p l e R_X12_evened s m args below meth c H locs 0 0 (MQ below (QL D A (wX12 hT aT yT q.2) q.1) args s 0 0 A) (F0 m 195 ls [])
def S_X12_evened_161 (l : Launch) (D : Dx) (hT : Nat) (aT : Nat → Nat) (yT : Nat → ClassId) (fn : Gs → Int32 → Int64 → Int64 → Int64 → Option (Int64 × Gs)) : Prop :=
  ∀ {p : Program} {e : Env} {s : State} {m : MethodId} {args : Array Value} {below : List Frame} {meth : Method} {c : Code} {H : Heap} {locs : List Loc} {A : Nat → Prop} {ls : Array Slot} {gT : Gs} {v4 : Int32} {v5 : Int64} {v9 : Int64} {s0 : Int64} {q : Int64 × Gs}, Cx p s m args meth c cX12_evened (some .long) 13 RX12 lw_all → Hx D (tX12 yT) A s H locs (wX12 hT aT yT gT) → lv_has ls 13 [(0, .ref hT), (4, .int v4), (5, .long v5), (9, .long v9)] → fn gT v4 v5 v9 s0 = some q → W p l e R_X12_evened s m args below meth c H locs 0 0 (MQ below (QL D A (wX12 hT aT yT q.2) q.1) args s 0 0 A) (F0 m 161 ls [.long s0])
def S_X12_evened_137 (l : Launch) (D : Dx) (hT : Nat) (aT : Nat → Nat) (yT : Nat → ClassId) (fn : Gs → Int32 → Int64 → Int64 → Option (Int64 × Gs)) : Prop :=
  ∀ {p : Program} {e : Env} {s : State} {m : MethodId} {args : Array Value} {below : List Frame} {meth : Method} {c : Code} {H : Heap} {locs : List Loc} {A : Nat → Prop} {ls : Array Slot} {gT : Gs} {v4 : Int32} {v5 : Int64} {s0 : Int64} {q : Int64 × Gs}, Cx p s m args meth c cX12_evened (some .long) 13 RX12 lw_all → Hx D (tX12 yT) A s H locs (wX12 hT aT yT gT) → lv_has ls 13 [(0, .ref hT), (4, .int v4), (5, .long v5)] → fn gT v4 v5 s0 = some q → W p l e R_X12_evened s m args below meth c H locs 0 0 (MQ below (QL D A (wX12 hT aT yT q.2) q.1) args s 0 0 A) (F0 m 137 ls [.long s0])
def S_X12_evened_113 (l : Launch) (D : Dx) (hT : Nat) (aT : Nat → Nat) (yT : Nat → ClassId) (fn : Gs → Int32 → Int32 → Int64 → Int32 → Option (Int64 × Gs)) : Prop :=
  ∀ {p : Program} {e : Env} {s : State} {m : MethodId} {args : Array Value} {below : List Frame} {meth : Method} {c : Code} {H : Heap} {locs : List Loc} {A : Nat → Prop} {ls : Array Slot} {gT : Gs} {v3 : Int32} {v4 : Int32} {v5 : Int64} {s0 : Int32} {q : Int64 × Gs}, Cx p s m args meth c cX12_evened (some .long) 13 RX12 lw_all → Hx D (tX12 yT) A s H locs (wX12 hT aT yT gT) → lv_has ls 13 [(0, .ref hT), (3, .int v3), (4, .int v4), (5, .long v5)] → fn gT v3 v4 v5 s0 = some q → W p l e R_X12_evened s m args below meth c H locs 0 0 (MQ below (QL D A (wX12 hT aT yT q.2) q.1) args s 0 0 A) (F0 m 113 ls [.int s0])
def S_X12_evened_112 (l : Launch) (D : Dx) (hT : Nat) (aT : Nat → Nat) (yT : Nat → ClassId) (fn : Gs → Int32 → Int32 → Int64 → Option (Int64 × Gs)) : Prop :=
  ∀ {p : Program} {e : Env} {s : State} {m : MethodId} {args : Array Value} {below : List Frame} {meth : Method} {c : Code} {H : Heap} {locs : List Loc} {A : Nat → Prop} {ls : Array Slot} {gT : Gs} {v3 : Int32} {v4 : Int32} {v5 : Int64} {q : Int64 × Gs}, Cx p s m args meth c cX12_evened (some .long) 13 RX12 lw_all → Hx D (tX12 yT) A s H locs (wX12 hT aT yT gT) → lv_has ls 13 [(0, .ref hT), (3, .int v3), (4, .int v4), (5, .long v5)] → fn gT v3 v4 v5 = some q → W p l e R_X12_evened s m args below meth c H locs 0 0 (MQ below (QL D A (wX12 hT aT yT q.2) q.1) args s 0 0 A) (F0 m 112 ls [])
def S_X12_evened_108 (l : Launch) (D : Dx) (hT : Nat) (aT : Nat → Nat) (yT : Nat → ClassId) (fn : Gs → Int32 → Int32 → Int64 → Option (Int64 × Gs)) : Prop :=
  ∀ {p : Program} {e : Env} {s : State} {m : MethodId} {args : Array Value} {below : List Frame} {meth : Method} {c : Code} {H : Heap} {locs : List Loc} {A : Nat → Prop} {ls : Array Slot} {gT : Gs} {v3 : Int32} {v4 : Int32} {v5 : Int64} {q : Int64 × Gs}, Cx p s m args meth c cX12_evened (some .long) 13 RX12 lw_all → Hx D (tX12 yT) A s H locs (wX12 hT aT yT gT) → lv_has ls 13 [(0, .ref hT), (3, .int v3), (4, .int v4), (5, .long v5)] → fn gT v3 v4 v5 = some q → W p l e R_X12_evened s m args below meth c H locs 0 0 (MQ below (QL D A (wX12 hT aT yT q.2) q.1) args s 0 0 A) (F0 m 108 ls [])
def S_X12_evened_80 (l : Launch) (D : Dx) (hT : Nat) (aT : Nat → Nat) (yT : Nat → ClassId) (fn : Gs → Int32 → Int32 → Int64 → Int32 → Option (Int64 × Gs)) : Prop :=
  ∀ {p : Program} {e : Env} {s : State} {m : MethodId} {args : Array Value} {below : List Frame} {meth : Method} {c : Code} {H : Heap} {locs : List Loc} {A : Nat → Prop} {ls : Array Slot} {gT : Gs} {v3 : Int32} {v4 : Int32} {v5 : Int64} {s0 : Int32} {q : Int64 × Gs}, Cx p s m args meth c cX12_evened (some .long) 13 RX12 lw_all → Hx D (tX12 yT) A s H locs (wX12 hT aT yT gT) → lv_has ls 13 [(0, .ref hT), (3, .int v3), (4, .int v4), (5, .long v5)] → fn gT v3 v4 v5 s0 = some q → W p l e R_X12_evened s m args below meth c H locs 0 0 (MQ below (QL D A (wX12 hT aT yT q.2) q.1) args s 0 0 A) (F0 m 80 ls [.int s0])
def S_X12_evened_75 (l : Launch) (D : Dx) (hT : Nat) (aT : Nat → Nat) (yT : Nat → ClassId) (fn : Gs → Int32 → Int32 → Int64 → Option (Int64 × Gs)) : Prop :=
  ∀ {p : Program} {e : Env} {s : State} {m : MethodId} {args : Array Value} {below : List Frame} {meth : Method} {c : Code} {H : Heap} {locs : List Loc} {A : Nat → Prop} {ls : Array Slot} {gT : Gs} {v3 : Int32} {v4 : Int32} {v5 : Int64} {q : Int64 × Gs}, Cx p s m args meth c cX12_evened (some .long) 13 RX12 lw_all → Hx D (tX12 yT) A s H locs (wX12 hT aT yT gT) → lv_has ls 13 [(0, .ref hT), (3, .int v3), (4, .int v4), (5, .long v5)] → fn gT v3 v4 v5 = some q → W p l e R_X12_evened s m args below meth c H locs 0 0 (MQ below (QL D A (wX12 hT aT yT q.2) q.1) args s 0 0 A) (F0 m 75 ls [])
def S_X12_evened_50 (l : Launch) (D : Dx) (hT : Nat) (aT : Nat → Nat) (yT : Nat → ClassId) (fn : Gs → Int32 → Int32 → Int64 → Option (Int64 × Gs)) : Prop :=
  ∀ {p : Program} {e : Env} {s : State} {m : MethodId} {args : Array Value} {below : List Frame} {meth : Method} {c : Code} {H : Heap} {locs : List Loc} {A : Nat → Prop} {ls : Array Slot} {gT : Gs} {v3 : Int32} {v4 : Int32} {s0 : Int64} {q : Int64 × Gs}, Cx p s m args meth c cX12_evened (some .long) 13 RX12 lw_all → Hx D (tX12 yT) A s H locs (wX12 hT aT yT gT) → lv_has ls 13 [(0, .ref hT), (3, .int v3), (4, .int v4)] → fn gT v3 v4 s0 = some q → W p l e R_X12_evened s m args below meth c H locs 0 0 (MQ below (QL D A (wX12 hT aT yT q.2) q.1) args s 0 0 A) (F0 m 50 ls [.long s0])
set_option maxHeartbeats 4000000 in
set_option maxRecDepth 100000 in
theorem k_X12_evened_213 (l : Launch) (D : Dx) (hT : Nat) (aT : Nat → Nat) (yT : Nat → ClassId) (n : Nat) : S_X12_evened_213 l D hT aT yT (b_X12_evened_213 n) := by
  intro p e s m args below meth c H locs A ls gT v5 q C X hl hF
  obtain ⟨hx, hb, hr, hml, hown, hts, hlk⟩ := id C
  unfold b_X12_evened_213 at hF
  refine lv_aload_n hx hb dX12_evened_213 rfl (lv_at hl 0 rfl) ?_
  refine va_get (D := D.1) (ci := 12) (v := .int (gI gT 0)) (C := RX12) (T := TX12) (N := 114) hx hb hts wi_X12 hown X.1 X.2.1 0 rfl rfl 0 (by decide) (hts _ q6_194) (fun _ h9 => h9) (fl_get (by decide)) dX12_evened_214 ?_
  refine lv_lload hx hb dX12_evened_217 (lv_at hl 1 rfl) ?_
  refine lv_iconst (v := (0 : Int32)) hx hb dX12_evened_219 (by decide) ?_
  refine lv_bipush (v := (7 : Int32)) hx hb dX12_evened_220 (by decide) ?_
  obtain ⟨q_3, hc_4, hF⟩ := bnd_some hF
  refine cS_l (As := [.int (gI gT 0), .long v5, .int (0 : Int32), .int (7 : Int32)]) (rest := []) C X (c_X12_made l D  n (gI gT 0) v5 (0 : Int32) (7 : Int32) q_3 hc_4 _) (va_cwS 4 hts (good_S q8_128 q8_129 q1_9 q8_130) rfl rfl rfl (by decide +kernel) ⟨Nat.le_of_ble_eq_true rfl, Nat.le_of_ble_eq_true rfl⟩) (eK X) eP (eD (A := A)) (eF X) hl.1 rfl rfl (Nat.le_of_ble_eq_true rfl) dX12_evened_222 ⟨Nat.le_of_ble_eq_true rfl, Nat.le_of_ble_eq_true rfl⟩ (fun t H1 locs1 ht hB hk hS => ?_)
  have X := Hx_after_none X hk hS
  clear hk hS ht hB
  generalize H1 = H at X ⊢
  generalize locs1 = locs at X ⊢
  have hq := Option.some.inj hF
  subst hq
  exact rt_l C X dX12_evened_225
set_option maxHeartbeats 4000000 in
set_option maxRecDepth 100000 in
theorem k_X12_evened_202 (l : Launch) (D : Dx) (hT : Nat) (aT : Nat → Nat) (yT : Nat → ClassId) (n : Nat) : S_X12_evened_202 l D hT aT yT (b_X12_evened_202 n) := by
  intro p e s m args below meth c H locs A ls gT v5 v8 q C X hl hF
  obtain ⟨hx, hb, hr, hml, hown, hts, hlk⟩ := id C
  unfold b_X12_evened_202 at hF
  refine lv_iload hx hb dX12_evened_202 (lv_at hl 2 rfl) ?_
  refine lv_if_eq (tgt := 213) hx hb dX12_evened_204 (by decide) (fun c => ?_) (fun c => ?_)
  · replace hF := iT c hF
    exact (k_X12_evened_213 l D hT aT yT n) C X (lv_sub hl [0, 1] rfl) hF
  · replace hF := iF c hF
    refine lv_lload hx hb dX12_evened_207 (lv_at hl 1 rfl) ?_
    refine lv_lconst (v := (1 : Int64)) hx hb dX12_evened_209 (by decide) ?_
    refine lv_ladd hx hb dX12_evened_210 ?_
    refine lv_lstore (lv' := [(5, .long (v5 + (1 : Int64))), (0, .ref hT), (8, .int v8)]) hx hb dX12_evened_211 hl (by decide) rfl (fun ls hl => ?_)
    exact (k_X12_evened_213 l D hT aT yT n) C X (lv_sub hl [1, 0] rfl) hF
set_option maxHeartbeats 4000000 in
set_option maxRecDepth 100000 in
theorem k_X12_evened_200 (l : Launch) (D : Dx) (hT : Nat) (aT : Nat → Nat) (yT : Nat → ClassId) (n : Nat) : S_X12_evened_200 l D hT aT yT (b_X12_evened_200 n) := by
  intro p e s m args below meth c H locs A ls gT v5 s0 q C X hl hF
  obtain ⟨hx, hb, hr, hml, hown, hts, hlk⟩ := id C
  unfold b_X12_evened_200 at hF
  refine lv_istore (lv' := [(8, .int s0), (0, .ref hT), (5, .long v5)]) hx hb dX12_evened_200 hl (by decide) rfl (fun ls hl => ?_)
  exact (k_X12_evened_202 l D hT aT yT n) C X (lv_sub hl [1, 2, 0] rfl) hF
set_option maxHeartbeats 4000000 in
set_option maxRecDepth 100000 in
theorem k_X12_evened_199 (l : Launch) (D : Dx) (hT : Nat) (aT : Nat → Nat) (yT : Nat → ClassId) (n : Nat) : S_X12_evened_199 l D hT aT yT (b_X12_evened_199 n) := by
  intro p e s m args below meth c H locs A ls gT v5 q C X hl hF
  obtain ⟨hx, hb, hr, hml, hown, hts, hlk⟩ := id C
  unfold b_X12_evened_199 at hF
  refine lv_iconst (v := (0 : Int32)) hx hb dX12_evened_199 (by decide) ?_
  exact (k_X12_evened_200 l D hT aT yT n) C X (lv_sub hl [0, 1] rfl) hF
set_option maxHeartbeats 4000000 in
set_option maxRecDepth 100000 in
theorem k_X12_evened_195 (l : Launch) (D : Dx) (hT : Nat) (aT : Nat → Nat) (yT : Nat → ClassId) (n : Nat) : S_X12_evened_195 l D hT aT yT (b_X12_evened_195 n) := by
  intro p e s m args below meth c H locs A ls gT v5 q C X hl hF
  obtain ⟨hx, hb, hr, hml, hown, hts, hlk⟩ := id C
  unfold b_X12_evened_195 at hF
  refine lv_iconst (v := (1 : Int32)) hx hb dX12_evened_195 (by decide) ?_
  refine lv_goto (tgt := 200) hx hb dX12_evened_196 (by decide) ?_
  exact (k_X12_evened_200 l D hT aT yT n) C X (lv_sub hl [0, 1] rfl) hF
set_option maxHeartbeats 4000000 in
set_option maxRecDepth 100000 in
theorem k_X12_evened_161 (l : Launch) (D : Dx) (hT : Nat) (aT : Nat → Nat) (yT : Nat → ClassId) (n : Nat) : S_X12_evened_161 l D hT aT yT (b_X12_evened_161 n) := by
  intro p e s m args below meth c H locs A ls gT v4 v5 v9 s0 q C X hl hF
  obtain ⟨hx, hb, hr, hml, hown, hts, hlk⟩ := id C
  unfold b_X12_evened_161 at hF
  refine lv_lstore (lv' := [(11, .long s0), (0, .ref hT), (4, .int v4), (5, .long v5), (9, .long v9)]) hx hb dX12_evened_161 hl (by decide) rfl (fun ls hl => ?_)
  refine lv_iload hx hb dX12_evened_163 (lv_at hl 2 rfl) ?_
  refine lv_bipush (v := (62 : Int32)) hx hb dX12_evened_165 (by decide) ?_
  refine lv_icmp_gt (tgt := 199) hx hb dX12_evened_167 (by decide) (fun c => ?_) (fun c => ?_)
  · replace hF := iT c hF
    exact (k_X12_evened_199 l D hT aT yT n) C X (lv_sub hl [1, 3] rfl) hF
  · replace hF := iF c hF
    refine lv_lload hx hb dX12_evened_170 (lv_at hl 0 rfl) ?_
    refine lv_lload hx hb dX12_evened_172 (lv_at hl 4 rfl) ?_
    refine W.lcmp hx hb dX12_evened_174 ?_
    refine lv_if_gt (tgt := 195) hx hb dX12_evened_175 (by decide) (fun c => ?_) (fun c => ?_)
    · have c := (lg_cmp_gt _ _).mp c
      replace hF := iT c hF
      exact (k_X12_evened_195 l D hT aT yT n) C X (lv_sub hl [1, 3] rfl) hF
    · have c := fun h => c ((lg_cmp_gt _ _).mpr h)
      replace hF := iF c hF
      refine lv_lload hx hb dX12_evened_178 (lv_at hl 0 rfl) ?_
      refine lv_lload hx hb dX12_evened_180 (lv_at hl 4 rfl) ?_
      refine W.lcmp hx hb dX12_evened_182 ?_
      refine lv_if_ne (tgt := 199) hx hb dX12_evened_183 (by decide) (fun c => ?_) (fun c => ?_)
      · have c := fun h => c ((lg_cmp_eq _ _).mpr h)
        replace hF := iF c hF
        exact (k_X12_evened_199 l D hT aT yT n) C X (lv_sub hl [1, 3] rfl) hF
      · have c := (lg_cmp_eq _ _).mp c
        replace hF := iT c hF
        refine lv_lload hx hb dX12_evened_186 (lv_at hl 3 rfl) ?_
        refine lv_lconst (v := (1 : Int64)) hx hb dX12_evened_188 (by decide) ?_
        refine lv_land hx hb dX12_evened_189 ?_
        refine lv_lconst (v := (1 : Int64)) hx hb dX12_evened_190 (by decide) ?_
        refine W.lcmp hx hb dX12_evened_191 ?_
        refine lv_if_ne (tgt := 199) hx hb dX12_evened_192 (by decide) (fun c => ?_) (fun c => ?_)
        · have c := fun h => c ((lg_cmp_eq _ _).mpr h)
          replace hF := iF c hF
          exact (k_X12_evened_199 l D hT aT yT n) C X (lv_sub hl [1, 3] rfl) hF
        · have c := (lg_cmp_eq _ _).mp c
          replace hF := iT c hF
          exact (k_X12_evened_195 l D hT aT yT n) C X (lv_sub hl [1, 3] rfl) hF
set_option maxHeartbeats 4000000 in
set_option maxRecDepth 100000 in
theorem k_X12_evened_137 (l : Launch) (D : Dx) (hT : Nat) (aT : Nat → Nat) (yT : Nat → ClassId) (n : Nat) : S_X12_evened_137 l D hT aT yT (b_X12_evened_137 n) := by
  intro p e s m args below meth c H locs A ls gT v4 v5 s0 q C X hl hF
  obtain ⟨hx, hb, hr, hml, hown, hts, hlk⟩ := id C
  unfold b_X12_evened_137 at hF
  refine lv_lstore (lv' := [(9, .long s0), (0, .ref hT), (4, .int v4), (5, .long v5)]) hx hb dX12_evened_137 hl (by decide) rfl (fun ls hl => ?_)
  refine lv_iload hx hb dX12_evened_139 (lv_at hl 2 rfl) ?_
  refine lv_bipush (v := (62 : Int32)) hx hb dX12_evened_141 (by decide) ?_
  refine lv_icmp_le (tgt := 150) hx hb dX12_evened_143 (by decide) (fun c => ?_) (fun c => ?_)
  · replace hF := iT c hF
    refine lv_aload_n hx hb dX12_evened_150 rfl (lv_at hl 1 rfl) ?_
    refine va_get (D := D.1) (ci := 12) (v := .long (gL gT 1)) (C := RX12) (T := TX12) (N := 114) hx hb hts wi_X12 hown X.1 X.2.1 0 rfl rfl 1 (by decide) (hts _ q6_195) (fun _ h9 => h9) (fl_get (by decide)) dX12_evened_151 ?_
    refine lv_lconst (v := (1 : Int64)) hx hb dX12_evened_154 (by decide) ?_
    refine lv_iload hx hb dX12_evened_155 (lv_at hl 2 rfl) ?_
    refine lv_lshl hx hb dX12_evened_157 rfl ?_
    refine lv_lconst (v := (1 : Int64)) hx hb dX12_evened_158 (by decide) ?_
    refine lv_lsub hx hb dX12_evened_159 ?_
    refine lv_land hx hb dX12_evened_160 ?_
    exact (k_X12_evened_161 l D hT aT yT n) C X (lv_sub hl [1, 2, 3, 0] rfl) hF
  · replace hF := iF c hF
    refine lv_lconst (v := (0 : Int64)) hx hb dX12_evened_146 (by decide) ?_
    refine lv_goto (tgt := 161) hx hb dX12_evened_147 (by decide) ?_
    exact (k_X12_evened_161 l D hT aT yT n) C X (lv_sub hl [1, 2, 3, 0] rfl) hF
set_option maxHeartbeats 4000000 in
set_option maxRecDepth 100000 in
theorem k_X12_evened_113 (l : Launch) (D : Dx) (hT : Nat) (aT : Nat → Nat) (yT : Nat → ClassId) (n : Nat) : S_X12_evened_113 l D hT aT yT (b_X12_evened_113 n) := by
  intro p e s m args below meth c H locs A ls gT v3 v4 v5 s0 q C X hl hF
  obtain ⟨hx, hb, hr, hml, hown, hts, hlk⟩ := id C
  unfold b_X12_evened_113 at hF
  refine lv_istore (lv' := [(8, .int s0), (0, .ref hT), (3, .int v3), (4, .int v4), (5, .long v5)]) hx hb dX12_evened_113 hl (by decide) rfl (fun ls hl => ?_)
  refine lv_iload_n hx hb dX12_evened_115 rfl (lv_at hl 2 rfl) ?_
  refine lv_iconst (v := (2 : Int32)) hx hb dX12_evened_116 (by decide) ?_
  refine lv_icmp_ne (tgt := 202) hx hb dX12_evened_117 (by decide) (fun c => ?_) (fun c => ?_)
  · replace hF := iF c hF
    exact (k_X12_evened_202 l D hT aT yT n) C X (lv_sub hl [1, 4, 0] rfl) hF
  · replace hF := iT c hF
    refine lv_iload hx hb dX12_evened_120 (lv_at hl 3 rfl) ?_
    refine lv_bipush (v := (62 : Int32)) hx hb dX12_evened_122 (by decide) ?_
    refine lv_icmp_le (tgt := 131) hx hb dX12_evened_124 (by decide) (fun c => ?_) (fun c => ?_)
    · replace hF := iT c hF
      refine lv_lconst (v := (1 : Int64)) hx hb dX12_evened_131 (by decide) ?_
      refine lv_iload hx hb dX12_evened_132 (lv_at hl 3 rfl) ?_
      refine lv_iconst (v := (1 : Int32)) hx hb dX12_evened_134 (by decide) ?_
      refine lv_isub hx hb dX12_evened_135 ?_
      refine lv_lshl hx hb dX12_evened_136 rfl ?_
      exact (k_X12_evened_137 l D hT aT yT n) C X (lv_sub hl [1, 3, 4] rfl) hF
    · replace hF := iF c hF
      refine lv_lconst (v := (0 : Int64)) hx hb dX12_evened_127 (by decide) ?_
      refine lv_goto (tgt := 137) hx hb dX12_evened_128 (by decide) ?_
      exact (k_X12_evened_137 l D hT aT yT n) C X (lv_sub hl [1, 3, 4] rfl) hF
set_option maxHeartbeats 4000000 in
set_option maxRecDepth 100000 in
theorem k_X12_evened_112 (l : Launch) (D : Dx) (hT : Nat) (aT : Nat → Nat) (yT : Nat → ClassId) (n : Nat) : S_X12_evened_112 l D hT aT yT (b_X12_evened_112 n) := by
  intro p e s m args below meth c H locs A ls gT v3 v4 v5 q C X hl hF
  obtain ⟨hx, hb, hr, hml, hown, hts, hlk⟩ := id C
  unfold b_X12_evened_112 at hF
  refine lv_iconst (v := (0 : Int32)) hx hb dX12_evened_112 (by decide) ?_
  exact (k_X12_evened_113 l D hT aT yT n) C X (lv_sub hl [0, 1, 2, 3] rfl) hF
set_option maxHeartbeats 4000000 in
set_option maxRecDepth 100000 in
theorem k_X12_evened_108 (l : Launch) (D : Dx) (hT : Nat) (aT : Nat → Nat) (yT : Nat → ClassId) (n : Nat) : S_X12_evened_108 l D hT aT yT (b_X12_evened_108 n) := by
  intro p e s m args below meth c H locs A ls gT v3 v4 v5 q C X hl hF
  obtain ⟨hx, hb, hr, hml, hown, hts, hlk⟩ := id C
  unfold b_X12_evened_108 at hF
  refine lv_iconst (v := (1 : Int32)) hx hb dX12_evened_108 (by decide) ?_
  refine lv_goto (tgt := 113) hx hb dX12_evened_109 (by decide) ?_
  exact (k_X12_evened_113 l D hT aT yT n) C X (lv_sub hl [0, 1, 2, 3] rfl) hF
set_option maxHeartbeats 4000000 in
set_option maxRecDepth 100000 in
theorem k_X12_evened_80 (l : Launch) (D : Dx) (hT : Nat) (aT : Nat → Nat) (yT : Nat → ClassId) (n : Nat) : S_X12_evened_80 l D hT aT yT (b_X12_evened_80 n) := by
  intro p e s m args below meth c H locs A ls gT v3 v4 v5 s0 q C X hl hF
  obtain ⟨hx, hb, hr, hml, hown, hts, hlk⟩ := id C
  unfold b_X12_evened_80 at hF
  refine lv_istore (lv' := [(7, .int s0), (0, .ref hT), (3, .int v3), (4, .int v4), (5, .long v5)]) hx hb dX12_evened_80 hl (by decide) rfl (fun ls hl => ?_)
  refine lv_iload hx hb dX12_evened_82 (lv_at hl 0 rfl) ?_
  refine lv_if_eq (tgt := 112) hx hb dX12_evened_84 (by decide) (fun c => ?_) (fun c => ?_)
  · replace hF := iT c hF
    exact (k_X12_evened_112 l D hT aT yT n) C X (lv_sub hl [1, 2, 3, 4] rfl) hF
  · replace hF := iF c hF
    refine lv_iload_n hx hb dX12_evened_87 rfl (lv_at hl 2 rfl) ?_
    refine lv_if_ne (tgt := 101) hx hb dX12_evened_88 (by decide) (fun c => ?_) (fun c => ?_)
    · replace hF := iF c hF
      refine lv_aload_n hx hb dX12_evened_101 rfl (lv_at hl 1 rfl) ?_
      refine va_get (D := D.1) (ci := 12) (v := .int (gI gT 0)) (C := RX12) (T := TX12) (N := 114) hx hb hts wi_X12 hown X.1 X.2.1 0 rfl rfl 0 (by decide) (hts _ q6_194) (fun _ h9 => h9) (fl_get (by decide)) dX12_evened_102 ?_
      refine lv_if_ne (tgt := 112) hx hb dX12_evened_105 (by decide) (fun c => ?_) (fun c => ?_)
      · replace hF := iF c hF
        exact (k_X12_evened_112 l D hT aT yT n) C X (lv_sub hl [1, 2, 3, 4] rfl) hF
      · replace hF := iT c hF
        exact (k_X12_evened_108 l D hT aT yT n) C X (lv_sub hl [1, 2, 3, 4] rfl) hF
    · replace hF := iT c hF
      refine lv_aload_n hx hb dX12_evened_91 rfl (lv_at hl 1 rfl) ?_
      refine va_get (D := D.1) (ci := 12) (v := .int (gI gT 0)) (C := RX12) (T := TX12) (N := 114) hx hb hts wi_X12 hown X.1 X.2.1 0 rfl rfl 0 (by decide) (hts _ q6_194) (fun _ h9 => h9) (fl_get (by decide)) dX12_evened_92 ?_
      refine lv_if_eq (tgt := 112) hx hb dX12_evened_95 (by decide) (fun c => ?_) (fun c => ?_)
      · replace hF := iT c hF
        exact (k_X12_evened_112 l D hT aT yT n) C X (lv_sub hl [1, 2, 3, 4] rfl) hF
      · replace hF := iF c hF
        refine lv_goto (tgt := 108) hx hb dX12_evened_98 (by decide) ?_
        exact (k_X12_evened_108 l D hT aT yT n) C X (lv_sub hl [1, 2, 3, 4] rfl) hF
set_option maxHeartbeats 4000000 in
set_option maxRecDepth 100000 in
theorem k_X12_evened_75 (l : Launch) (D : Dx) (hT : Nat) (aT : Nat → Nat) (yT : Nat → ClassId) (n : Nat) : S_X12_evened_75 l D hT aT yT (b_X12_evened_75 n) := by
  intro p e s m args below meth c H locs A ls gT v3 v4 v5 q C X hl hF
  obtain ⟨hx, hb, hr, hml, hown, hts, hlk⟩ := id C
  unfold b_X12_evened_75 at hF
  refine lv_iconst (v := (1 : Int32)) hx hb dX12_evened_75 (by decide) ?_
  refine lv_goto (tgt := 80) hx hb dX12_evened_76 (by decide) ?_
  exact (k_X12_evened_80 l D hT aT yT n) C X (lv_sub hl [0, 1, 2, 3] rfl) hF
set_option maxHeartbeats 4000000 in
set_option maxRecDepth 100000 in
theorem k_X12_evened_50 (l : Launch) (D : Dx) (hT : Nat) (aT : Nat → Nat) (yT : Nat → ClassId) (n : Nat) : S_X12_evened_50 l D hT aT yT (b_X12_evened_50 n) := by
  intro p e s m args below meth c H locs A ls gT v3 v4 s0 q C X hl hF
  obtain ⟨hx, hb, hr, hml, hown, hts, hlk⟩ := id C
  unfold b_X12_evened_50 at hF
  refine lv_lstore (lv' := [(5, .long s0), (0, .ref hT), (3, .int v3), (4, .int v4)]) hx hb dX12_evened_50 hl (by decide) rfl (fun ls hl => ?_)
  refine lv_iload hx hb dX12_evened_52 (lv_at hl 3 rfl) ?_
  refine lv_bipush (v := (62 : Int32)) hx hb dX12_evened_54 (by decide) ?_
  refine lv_icmp_gt (tgt := 75) hx hb dX12_evened_56 (by decide) (fun c => ?_) (fun c => ?_)
  · replace hF := iT c hF
    exact (k_X12_evened_75 l D hT aT yT n) C X (lv_sub hl [1, 2, 3, 0] rfl) hF
  · replace hF := iF c hF
    refine lv_aload_n hx hb dX12_evened_59 rfl (lv_at hl 1 rfl) ?_
    refine va_get (D := D.1) (ci := 12) (v := .long (gL gT 1)) (C := RX12) (T := TX12) (N := 114) hx hb hts wi_X12 hown X.1 X.2.1 0 rfl rfl 1 (by decide) (hts _ q6_195) (fun _ h9 => h9) (fl_get (by decide)) dX12_evened_60 ?_
    refine lv_lconst (v := (1 : Int64)) hx hb dX12_evened_63 (by decide) ?_
    refine lv_iload hx hb dX12_evened_64 (lv_at hl 3 rfl) ?_
    refine lv_lshl hx hb dX12_evened_66 rfl ?_
    refine lv_lconst (v := (1 : Int64)) hx hb dX12_evened_67 (by decide) ?_
    refine lv_lsub hx hb dX12_evened_68 ?_
    refine lv_land hx hb dX12_evened_69 ?_
    refine lv_lconst (v := (0 : Int64)) hx hb dX12_evened_70 (by decide) ?_
    refine W.lcmp hx hb dX12_evened_71 ?_
    refine lv_if_eq (tgt := 79) hx hb dX12_evened_72 (by decide) (fun c => ?_) (fun c => ?_)
    · have c := (lg_cmp_eq _ _).mp c
      replace hF := iT c hF
      refine lv_iconst (v := (0 : Int32)) hx hb dX12_evened_79 (by decide) ?_
      exact (k_X12_evened_80 l D hT aT yT n) C X (lv_sub hl [1, 2, 3, 0] rfl) hF
    · have c := fun h => c ((lg_cmp_eq _ _).mpr h)
      replace hF := iF c hF
      exact (k_X12_evened_75 l D hT aT yT n) C X (lv_sub hl [1, 2, 3, 0] rfl) hF
set_option maxHeartbeats 4000000 in
set_option maxRecDepth 100000 in
theorem c_X12_evened (l : Launch) (D : Dx) (hT : Nat) (aT : Nat → Nat) (yT : Nat → ClassId) (n : Nat) (gT : Gs) (x0 : Int64) (x1 : Int32) (q : Int64 × Gs) (hF : f_X12_evened n gT x0 x1 = some q) (sz : Nat) : Met l yX12_evened (ws_ yX12_evened cX12_evened 13 (some .long)) R_X12_evened (PC D (tX12 yT) [.ref hT, .long x0, .int x1] (wX12 hT aT yT gT) sz) (QL D (va_A (wX12 hT aT yT gT) sz) (wX12 hT aT yT q.2) q.1) 0 0 (va_A (wX12 hT aT yT gT) sz) := by
  refine Met.ofW (cc := cX12_evened) (maxL := 13) (ret := (some .long)) (by decide) rfl ?_
  intro p e s m args below meth c s₁ B hml hv
  obtain ⟨rfl, hsz, hP, hK, hD, hN⟩ := hv
  subst hsz
  have C : Cx p s m _ meth c cX12_evened (some .long) 13 RX12 lw_all := Cx_of B hml
  have X := Hx_start hP hK hD hN
  obtain ⟨hx, hb, hr, -, hown, hts, hlk⟩ := id C
  generalize va_A (wX12 hT aT yT gT) s.heap.size = A at X ⊢
  have hl := lv_entry ([.ref hT, .long x0, .int x1]) (n := 13) (Nat.le_of_ble_eq_true rfl)
  rw [lg_entry_eq]
  generalize (lg_sl ([.ref hT, .long x0, .int x1]) ++ List.replicate (13 - (lg_sl ([.ref hT, .long x0, .int x1])).length) Slot.unset).toArray = ls at hl ⊢
  have hl : lv_has ls 13 [(0, .ref hT), (1, .long x0), (3, .int x1)] := hl
  unfold f_X12_evened at hF
  refine lv_aload_n hx hb dX12_evened_0 rfl (lv_at hl 0 rfl) ?_
  refine lv_lload_n hx hb dX12_evened_1 rfl (lv_at hl 1 rfl) ?_
  refine lv_bipush (v := (7 : Int32)) hx hb dX12_evened_2 (by decide) ?_
  obtain ⟨q_1, hc_2, hF⟩ := bnd_some hF
  refine cV_v (As := [.long x0, .int (7 : Int32)]) (rest := []) C X (c_X12_open l D hT aT yT gT x0 (7 : Int32) q_1 hc_2 _) (cwV 2 hts (good_V q8_120 q8_122 q0_72 q1_9 q8_123) rfl rfl rfl (by decide +kernel) ⟨Nat.le_of_ble_eq_true rfl, Nat.le_of_ble_eq_true rfl⟩) (va_recv X.1 X.2.1 (ci := 12) (q0 := 0) rfl rfl) X.1 X.2.1 X.2.2.1 (free_all X) hl.1 rfl rfl (Nat.le_of_ble_eq_true rfl) dX12_evened_4 ⟨Nat.le_of_ble_eq_true rfl, Nat.le_of_ble_eq_true rfl⟩ (fun t H1 locs1 ht hB hk hS => ?_)
  have X : Hx D (tX12 yT) A s H1 locs1 (wX12 hT aT yT q_1) := Hx_after_all X ht hB hS
  clear hk hS ht hB
  generalize H1 = H at X ⊢
  generalize locs1 = locs at X ⊢
  refine lv_aload_n hx hb dX12_evened_7 rfl (lv_at hl 0 rfl) ?_
  refine va_get (D := D.1) (ci := 12) (v := .int (gI q_1 2)) (C := RX12) (T := TX12) (N := 114) hx hb hts wi_X12 hown X.1 X.2.1 0 rfl rfl 2 (by decide) (hts _ q6_196) (fun _ h9 => h9) (fl_get (by decide)) dX12_evened_8 ?_
  refine lv_if_ge (tgt := 23) hx hb dX12_evened_11 (by decide) (fun c => ?_) (fun c => ?_)
  · replace hF := iT c hF
    refine lv_lload_n hx hb dX12_evened_23 rfl (lv_at hl 1 rfl) ?_
    have hq := Option.some.inj hF
    subst hq
    exact rt_l C X dX12_evened_24
  · replace hF := iF c hF
    refine lv_aload_n hx hb dX12_evened_14 rfl (lv_at hl 0 rfl) ?_
    refine va_get (D := D.1) (ci := 12) (v := .long (gL q_1 1)) (C := RX12) (T := TX12) (N := 114) hx hb hts wi_X12 hown X.1 X.2.1 0 rfl rfl 1 (by decide) (hts _ q6_195) (fun _ h9 => h9) (fl_get (by decide)) dX12_evened_15 ?_
    refine lv_lconst (v := (0 : Int64)) hx hb dX12_evened_18 (by decide) ?_
    refine W.lcmp hx hb dX12_evened_19 ?_
    refine lv_if_ne (tgt := 25) hx hb dX12_evened_20 (by decide) (fun c => ?_) (fun c => ?_)
    · have c := fun h => c ((lg_cmp_eq _ _).mpr h)
      replace hF := iF c hF
      refine lv_aload_n hx hb dX12_evened_25 rfl (lv_at hl 0 rfl) ?_
      refine va_get (D := D.1) (ci := 12) (v := .int (gI q_1 2)) (C := RX12) (T := TX12) (N := 114) hx hb hts wi_X12 hown X.1 X.2.1 0 rfl rfl 2 (by decide) (hts _ q6_196) (fun _ h9 => h9) (fl_get (by decide)) dX12_evened_26 ?_
      refine lv_ineg hx hb dX12_evened_29 ?_
      refine lv_istore (lv' := [(4, .int (-(gI q_1 2))), (0, .ref hT), (1, .long x0), (3, .int x1)]) hx hb dX12_evened_30 hl (by decide) rfl (fun ls hl => ?_)
      refine lv_iload hx hb dX12_evened_32 (lv_at hl 0 rfl) ?_
      refine lv_bipush (v := (62 : Int32)) hx hb dX12_evened_34 (by decide) ?_
      refine lv_icmp_le (tgt := 43) hx hb dX12_evened_36 (by decide) (fun c => ?_) (fun c => ?_)
      · replace hF := iT c hF
        refine lv_aload_n hx hb dX12_evened_43 rfl (lv_at hl 1 rfl) ?_
        refine va_get (D := D.1) (ci := 12) (v := .long (gL q_1 1)) (C := RX12) (T := TX12) (N := 114) hx hb hts wi_X12 hown X.1 X.2.1 0 rfl rfl 1 (by decide) (hts _ q6_195) (fun _ h9 => h9) (fl_get (by decide)) dX12_evened_44 ?_
        refine lv_iload hx hb dX12_evened_47 (lv_at hl 0 rfl) ?_
        refine lv_lshr hx hb dX12_evened_49 rfl ?_
        exact (k_X12_evened_50 l D hT aT yT n) C X (lv_sub hl [1, 3, 0] rfl) hF
      · replace hF := iF c hF
        refine lv_lconst (v := (0 : Int64)) hx hb dX12_evened_39 (by decide) ?_
        refine lv_goto (tgt := 50) hx hb dX12_evened_40 (by decide) ?_
        exact (k_X12_evened_50 l D hT aT yT n) C X (lv_sub hl [1, 3, 0] rfl) hF
    · have c := (lg_cmp_eq _ _).mp c
      replace hF := iT c hF
      refine lv_lload_n hx hb dX12_evened_23 rfl (lv_at hl 1 rfl) ?_
      have hq := Option.some.inj hF
      subst hq
      exact rt_l C X dX12_evened_24

/-! ### X12_feed -/
theorem dX12_feed_0 : decode cX12_feed 0 = .ok (.aload_n 0, 1) := by decide +kernel
theorem dX12_feed_1 : decode cX12_feed 1 = .ok (.getfield 13, 3) := by decide +kernel
theorem dX12_feed_4 : decode cX12_feed 4 = .ok (.bipush 20, 2) := by decide +kernel
theorem dX12_feed_6 : decode cX12_feed 6 = .ok (.iadd, 1) := by decide +kernel
theorem dX12_feed_7 : decode cX12_feed 7 = .ok (.sipush 3000, 3) := by decide +kernel
theorem dX12_feed_10 : decode cX12_feed 10 = .ok (.if_icmp .le 5, 3) := by decide +kernel
theorem dX12_feed_13 : decode cX12_feed 13 = .ok (.iconst (-1), 1) := by decide +kernel
theorem dX12_feed_14 : decode cX12_feed 14 = .ok (.ireturn, 1) := by decide +kernel
theorem dX12_feed_15 : decode cX12_feed 15 = .ok (.iconst 0, 1) := by decide +kernel
theorem dX12_feed_16 : decode cX12_feed 16 = .ok (.istore 6, 2) := by decide +kernel
theorem dX12_feed_18 : decode cX12_feed 18 = .ok (.iload 6, 2) := by decide +kernel
theorem dX12_feed_20 : decode cX12_feed 20 = .ok (.iconst 4, 1) := by decide +kernel
theorem dX12_feed_21 : decode cX12_feed 21 = .ok (.if_icmp .ge 117, 3) := by decide +kernel
theorem dX12_feed_24 : decode cX12_feed 24 = .ok (.bipush 24, 2) := by decide +kernel
theorem dX12_feed_26 : decode cX12_feed 26 = .ok (.bipush 8, 2) := by decide +kernel
theorem dX12_feed_28 : decode cX12_feed 28 = .ok (.iload 6, 2) := by decide +kernel
theorem dX12_feed_30 : decode cX12_feed 30 = .ok (.imul, 1) := by decide +kernel
theorem dX12_feed_31 : decode cX12_feed 31 = .ok (.isub, 1) := by decide +kernel
theorem dX12_feed_32 : decode cX12_feed 32 = .ok (.istore 7, 2) := by decide +kernel
theorem dX12_feed_34 : decode cX12_feed 34 = .ok (.aload_n 0, 1) := by decide +kernel
theorem dX12_feed_35 : decode cX12_feed 35 = .ok (.getfield 9, 3) := by decide +kernel
theorem dX12_feed_38 : decode cX12_feed 38 = .ok (.aload_n 0, 1) := by decide +kernel
theorem dX12_feed_39 : decode cX12_feed 39 = .ok (.getfield 13, 3) := by decide +kernel
theorem dX12_feed_42 : decode cX12_feed 42 = .ok (.iload 6, 2) := by decide +kernel
theorem dX12_feed_44 : decode cX12_feed 44 = .ok (.iadd, 1) := by decide +kernel
theorem dX12_feed_45 : decode cX12_feed 45 = .ok (.iload_n 1, 1) := by decide +kernel
theorem dX12_feed_46 : decode cX12_feed 46 = .ok (.iload 7, 2) := by decide +kernel
theorem dX12_feed_48 : decode cX12_feed 48 = .ok (.ishr, 1) := by decide +kernel
theorem dX12_feed_49 : decode cX12_feed 49 = .ok (.i2b, 1) := by decide +kernel
theorem dX12_feed_50 : decode cX12_feed 50 = .ok (.bastore, 1) := by decide +kernel
theorem dX12_feed_51 : decode cX12_feed 51 = .ok (.aload_n 0, 1) := by decide +kernel
theorem dX12_feed_52 : decode cX12_feed 52 = .ok (.getfield 9, 3) := by decide +kernel
theorem dX12_feed_55 : decode cX12_feed 55 = .ok (.aload_n 0, 1) := by decide +kernel
theorem dX12_feed_56 : decode cX12_feed 56 = .ok (.getfield 13, 3) := by decide +kernel
theorem dX12_feed_59 : decode cX12_feed 59 = .ok (.iconst 4, 1) := by decide +kernel
theorem dX12_feed_60 : decode cX12_feed 60 = .ok (.iadd, 1) := by decide +kernel
theorem dX12_feed_61 : decode cX12_feed 61 = .ok (.iload 6, 2) := by decide +kernel
theorem dX12_feed_63 : decode cX12_feed 63 = .ok (.iadd, 1) := by decide +kernel
theorem dX12_feed_64 : decode cX12_feed 64 = .ok (.iload_n 2, 1) := by decide +kernel
theorem dX12_feed_65 : decode cX12_feed 65 = .ok (.iload 7, 2) := by decide +kernel
theorem dX12_feed_67 : decode cX12_feed 67 = .ok (.ishr, 1) := by decide +kernel
theorem dX12_feed_68 : decode cX12_feed 68 = .ok (.i2b, 1) := by decide +kernel
theorem dX12_feed_69 : decode cX12_feed 69 = .ok (.bastore, 1) := by decide +kernel
theorem dX12_feed_70 : decode cX12_feed 70 = .ok (.aload_n 0, 1) := by decide +kernel
theorem dX12_feed_71 : decode cX12_feed 71 = .ok (.getfield 9, 3) := by decide +kernel
theorem dX12_feed_74 : decode cX12_feed 74 = .ok (.aload_n 0, 1) := by decide +kernel
theorem dX12_feed_75 : decode cX12_feed 75 = .ok (.getfield 13, 3) := by decide +kernel
theorem dX12_feed_78 : decode cX12_feed 78 = .ok (.bipush 8, 2) := by decide +kernel
theorem dX12_feed_80 : decode cX12_feed 80 = .ok (.iadd, 1) := by decide +kernel
theorem dX12_feed_81 : decode cX12_feed 81 = .ok (.iload 6, 2) := by decide +kernel
theorem dX12_feed_83 : decode cX12_feed 83 = .ok (.iadd, 1) := by decide +kernel
theorem dX12_feed_84 : decode cX12_feed 84 = .ok (.iload_n 3, 1) := by decide +kernel
theorem dX12_feed_85 : decode cX12_feed 85 = .ok (.iload 7, 2) := by decide +kernel
theorem dX12_feed_87 : decode cX12_feed 87 = .ok (.ishr, 1) := by decide +kernel
theorem dX12_feed_88 : decode cX12_feed 88 = .ok (.i2b, 1) := by decide +kernel
theorem dX12_feed_89 : decode cX12_feed 89 = .ok (.bastore, 1) := by decide +kernel
theorem dX12_feed_90 : decode cX12_feed 90 = .ok (.aload_n 0, 1) := by decide +kernel
theorem dX12_feed_91 : decode cX12_feed 91 = .ok (.getfield 9, 3) := by decide +kernel
theorem dX12_feed_94 : decode cX12_feed 94 = .ok (.aload_n 0, 1) := by decide +kernel
theorem dX12_feed_95 : decode cX12_feed 95 = .ok (.getfield 13, 3) := by decide +kernel
theorem dX12_feed_98 : decode cX12_feed 98 = .ok (.bipush 12, 2) := by decide +kernel
theorem dX12_feed_100 : decode cX12_feed 100 = .ok (.iadd, 1) := by decide +kernel
theorem dX12_feed_101 : decode cX12_feed 101 = .ok (.iload 6, 2) := by decide +kernel
theorem dX12_feed_103 : decode cX12_feed 103 = .ok (.iadd, 1) := by decide +kernel
theorem dX12_feed_104 : decode cX12_feed 104 = .ok (.iload 4, 2) := by decide +kernel
theorem dX12_feed_106 : decode cX12_feed 106 = .ok (.iload 7, 2) := by decide +kernel
theorem dX12_feed_108 : decode cX12_feed 108 = .ok (.ishr, 1) := by decide +kernel
theorem dX12_feed_109 : decode cX12_feed 109 = .ok (.i2b, 1) := by decide +kernel
theorem dX12_feed_110 : decode cX12_feed 110 = .ok (.bastore, 1) := by decide +kernel
theorem dX12_feed_111 : decode cX12_feed 111 = .ok (.aload_n 0, 1) := by decide +kernel
theorem dX12_feed_112 : decode cX12_feed 112 = .ok (.getfield 9, 3) := by decide +kernel
theorem dX12_feed_115 : decode cX12_feed 115 = .ok (.aload_n 0, 1) := by decide +kernel
theorem dX12_feed_116 : decode cX12_feed 116 = .ok (.getfield 13, 3) := by decide +kernel
theorem dX12_feed_119 : decode cX12_feed 119 = .ok (.bipush 16, 2) := by decide +kernel
theorem dX12_feed_121 : decode cX12_feed 121 = .ok (.iadd, 1) := by decide +kernel
theorem dX12_feed_122 : decode cX12_feed 122 = .ok (.iload 6, 2) := by decide +kernel
theorem dX12_feed_124 : decode cX12_feed 124 = .ok (.iadd, 1) := by decide +kernel
theorem dX12_feed_125 : decode cX12_feed 125 = .ok (.iload 5, 2) := by decide +kernel
theorem dX12_feed_127 : decode cX12_feed 127 = .ok (.iload 7, 2) := by decide +kernel
theorem dX12_feed_129 : decode cX12_feed 129 = .ok (.ishr, 1) := by decide +kernel
theorem dX12_feed_130 : decode cX12_feed 130 = .ok (.i2b, 1) := by decide +kernel
theorem dX12_feed_131 : decode cX12_feed 131 = .ok (.bastore, 1) := by decide +kernel
theorem dX12_feed_132 : decode cX12_feed 132 = .ok (.iinc 6 1, 3) := by decide +kernel
theorem dX12_feed_135 : decode cX12_feed 135 = .ok (.goto (-117), 3) := by decide +kernel
theorem dX12_feed_138 : decode cX12_feed 138 = .ok (.aload_n 0, 1) := by decide +kernel
theorem dX12_feed_139 : decode cX12_feed 139 = .ok (.dup, 1) := by decide +kernel
theorem dX12_feed_140 : decode cX12_feed 140 = .ok (.getfield 13, 3) := by decide +kernel
theorem dX12_feed_143 : decode cX12_feed 143 = .ok (.bipush 20, 2) := by decide +kernel
theorem dX12_feed_145 : decode cX12_feed 145 = .ok (.iadd, 1) := by decide +kernel
theorem dX12_feed_146 : decode cX12_feed 146 = .ok (.putfield 13, 3) := by decide +kernel
theorem dX12_feed_149 : decode cX12_feed 149 = .ok (.aload_n 0, 1) := by decide +kernel
theorem dX12_feed_150 : decode cX12_feed 150 = .ok (.getfield 13, 3) := by decide +kernel
theorem dX12_feed_153 : decode cX12_feed 153 = .ok (.ireturn, 1) := by decide +kernel
abbrev R_X12_feed : Room := ({ frames := 0, cells := 0, slots := 0, locals := 0 } : Room)
def h_X12_feed_18 (n : Nat) (rec : (Gs → Int32 → Int32 → Int32 → Int32 → Int32 → Int32 → Option (Int32 × Gs))) (gT : Gs) (v1 : Int32) (v2 : Int32) (v3 : Int32) (v4 : Int32) (v5 : Int32) (v6 : Int32) : Option (Int32 × Gs) :=
  if (4 : Int32) ≤ v6 then (some ((gI gT 4) + (20 : Int32), (sI gT 4 ((gI gT 4) + (20 : Int32))))) else (grd (inB ((gI gT 4) + v6) 3000) (grd (inB (((gI gT 4) + (4 : Int32)) + v6) 3000) (grd (inB (((gI gT 4) + (8 : Int32)) + v6) 3000) (grd (inB (((gI gT 4) + (12 : Int32)) + v6) 3000) (grd (inB (((gI gT 4) + (16 : Int32)) + v6) 3000) (rec (sIA (sIA (sIA (sIA (sIA gT 3 (upd (gIA gT 3) ((gI gT 4) + v6).toNatClampNeg (vp_nar .byte ((v1 >>> (((24 : Int32) - ((8 : Int32) * v6)) &&& 31)).toInt8.toInt32)))) 3 (upd (upd (gIA gT 3) ((gI gT 4) + v6).toNatClampNeg (vp_nar .byte ((v1 >>> (((24 : Int32) - ((8 : Int32) * v6)) &&& 31)).toInt8.toInt32))) (((gI gT 4) + (4 : Int32)) + v6).toNatClampNeg (vp_nar .byte ((v2 >>> (((24 : Int32) - ((8 : Int32) * v6)) &&& 31)).toInt8.toInt32)))) 3 (upd (upd (upd (gIA gT 3) ((gI gT 4) + v6).toNatClampNeg (vp_nar .byte ((v1 >>> (((24 : Int32) - ((8 : Int32) * v6)) &&& 31)).toInt8.toInt32))) (((gI gT 4) + (4 : Int32)) + v6).toNatClampNeg (vp_nar .byte ((v2 >>> (((24 : Int32) - ((8 : Int32) * v6)) &&& 31)).toInt8.toInt32))) (((gI gT 4) + (8 : Int32)) + v6).toNatClampNeg (vp_nar .byte ((v3 >>> (((24 : Int32) - ((8 : Int32) * v6)) &&& 31)).toInt8.toInt32)))) 3 (upd (upd (upd (upd (gIA gT 3) ((gI gT 4) + v6).toNatClampNeg (vp_nar .byte ((v1 >>> (((24 : Int32) - ((8 : Int32) * v6)) &&& 31)).toInt8.toInt32))) (((gI gT 4) + (4 : Int32)) + v6).toNatClampNeg (vp_nar .byte ((v2 >>> (((24 : Int32) - ((8 : Int32) * v6)) &&& 31)).toInt8.toInt32))) (((gI gT 4) + (8 : Int32)) + v6).toNatClampNeg (vp_nar .byte ((v3 >>> (((24 : Int32) - ((8 : Int32) * v6)) &&& 31)).toInt8.toInt32))) (((gI gT 4) + (12 : Int32)) + v6).toNatClampNeg (vp_nar .byte ((v4 >>> (((24 : Int32) - ((8 : Int32) * v6)) &&& 31)).toInt8.toInt32)))) 3 (upd (upd (upd (upd (upd (gIA gT 3) ((gI gT 4) + v6).toNatClampNeg (vp_nar .byte ((v1 >>> (((24 : Int32) - ((8 : Int32) * v6)) &&& 31)).toInt8.toInt32))) (((gI gT 4) + (4 : Int32)) + v6).toNatClampNeg (vp_nar .byte ((v2 >>> (((24 : Int32) - ((8 : Int32) * v6)) &&& 31)).toInt8.toInt32))) (((gI gT 4) + (8 : Int32)) + v6).toNatClampNeg (vp_nar .byte ((v3 >>> (((24 : Int32) - ((8 : Int32) * v6)) &&& 31)).toInt8.toInt32))) (((gI gT 4) + (12 : Int32)) + v6).toNatClampNeg (vp_nar .byte ((v4 >>> (((24 : Int32) - ((8 : Int32) * v6)) &&& 31)).toInt8.toInt32))) (((gI gT 4) + (16 : Int32)) + v6).toNatClampNeg (vp_nar .byte ((v5 >>> (((24 : Int32) - ((8 : Int32) * v6)) &&& 31)).toInt8.toInt32)))) v1 v2 v3 v4 v5 (v6 + (1 : Int32))))))))
def L_X12_feed (n : Nat) : Nat → (Gs → Int32 → Int32 → Int32 → Int32 → Int32 → Int32 → Option (Int32 × Gs))
  | 0 => ((fun _ _ _ _ _ _ _ => none))
  | k + 1 => (h_X12_feed_18 n (L_X12_feed n k))
def f_X12_feed (n : Nat) (gT : Gs) (x0 : Int32) (x1 : Int32) (x2 : Int32) (x3 : Int32) (x4 : Int32) : Option (Int32 × Gs) :=
  if ((gI gT 4) + (20 : Int32)) ≤ (3000 : Int32) then ((L_X12_feed n n) gT x0 x1 x2 x3 x4 (0 : Int32)) else (some ((-1 : Int32), gT))
def S_X12_feed_18 (l : Launch) (D : Dx) (hT : Nat) (aT : Nat → Nat) (yT : Nat → ClassId) (fn : Gs → Int32 → Int32 → Int32 → Int32 → Int32 → Int32 → Option (Int32 × Gs)) : Prop :=
  ∀ {p : Program} {e : Env} {s : State} {m : MethodId} {args : Array Value} {below : List Frame} {meth : Method} {c : Code} {H : Heap} {locs : List Loc} {A : Nat → Prop} {ls : Array Slot} {gT : Gs} {v1 : Int32} {v2 : Int32} {v3 : Int32} {v4 : Int32} {v5 : Int32} {v6 : Int32} {q : Int32 × Gs}, Cx p s m args meth c cX12_feed (some .int) 8 RX12 lw_all → Hx D (tX12 yT) A s H locs (wX12 hT aT yT gT) → lv_has ls 8 [(0, .ref hT), (1, .int v1), (2, .int v2), (3, .int v3), (4, .int v4), (5, .int v5), (6, .int v6)] → fn gT v1 v2 v3 v4 v5 v6 = some q → W p l e R_X12_feed s m args below meth c H locs 0 0 (MQ below (QI D A (wX12 hT aT yT q.2) q.1) args s 0 0 A) (F0 m 18 ls [])
def SH_X12_feed (l : Launch) (D : Dx) (hT : Nat) (aT : Nat → Nat) (yT : Nat → ClassId) (rec : (Gs → Int32 → Int32 → Int32 → Int32 → Int32 → Int32 → Option (Int32 × Gs))) : Prop := S_X12_feed_18 l D hT aT yT rec
set_option maxHeartbeats 4000000 in
set_option maxRecDepth 100000 in
theorem k_X12_feed_18 (l : Launch) (D : Dx) (hT : Nat) (aT : Nat → Nat) (yT : Nat → ClassId) (n : Nat) (rec : (Gs → Int32 → Int32 → Int32 → Int32 → Int32 → Int32 → Option (Int32 × Gs))) (IH : SH_X12_feed l D hT aT yT rec) : S_X12_feed_18 l D hT aT yT (h_X12_feed_18 n rec) := by
  intro p e s m args below meth c H locs A ls gT v1 v2 v3 v4 v5 v6 q C X hl hF
  obtain ⟨hx, hb, hr, hml, hown, hts, hlk⟩ := id C
  unfold h_X12_feed_18 at hF
  refine lv_iload hx hb dX12_feed_18 (lv_at hl 6 rfl) ?_
  refine lv_iconst (v := (4 : Int32)) hx hb dX12_feed_20 (by decide) ?_
  refine lv_icmp_ge (tgt := 138) hx hb dX12_feed_21 (by decide) (fun c => ?_) (fun c => ?_)
  · replace hF := iT c hF
    refine lv_aload_n hx hb dX12_feed_138 rfl (lv_at hl 0 rfl) ?_
    refine lv_dup hx hb dX12_feed_139 rfl ?_
    refine va_get (D := D.1) (ci := 12) (v := .int (gI gT 4)) (C := RX12) (T := TX12) (N := 114) hx hb hts wi_X12 hown X.1 X.2.1 0 rfl rfl 4 (by decide) (hts _ q6_198) (fun _ h9 => h9) (fl_get (by decide)) dX12_feed_140 ?_
    refine lv_bipush (v := (20 : Int32)) hx hb dX12_feed_143 (by decide) ?_
    refine lv_iadd hx hb dX12_feed_145 ?_
    refine va_put (D := D.1) (ci := 12) (v := .int ((gI gT 4) + (20 : Int32))) (ty := .int) (C := RX12) (T := TX12) (N := 114) hx hb hts wi_X12 tyX12 tyX12_ok nmX12 hown X.1 X.2.1 X.2.2.1 X.2.2.2.1 0 rfl rfl 4 (by decide) (hts _ q6_198) (fun _ h9 => h9) rfl (by decide +kernel) rfl rfl (by rw [List.length_map, List.length_range]; decide) dX12_feed_146 (fun H locs hP hD hS => ?_)
    have X : Hx D (tX12 yT) A s H locs (wX12 hT aT yT (sI gT 4 ((gI gT 4) + (20 : Int32)))) := Hx_set X (wG_sI (k := 4) rfl) hP hD hS
    refine lv_aload_n hx hb dX12_feed_149 rfl (lv_at hl 0 rfl) ?_
    refine va_get (D := D.1) (ci := 12) (v := .int ((gI gT 4) + (20 : Int32))) (C := RX12) (T := TX12) (N := 114) hx hb hts wi_X12 hown X.1 X.2.1 0 rfl rfl 4 (by decide) (hts _ q6_198) (fun _ h9 => h9) (fl_get (by decide)) dX12_feed_150 ?_
    have hq := Option.some.inj hF
    subst hq
    exact rt_i C X dX12_feed_153
  · replace hF := iF c hF
    refine lv_bipush (v := (24 : Int32)) hx hb dX12_feed_24 (by decide) ?_
    refine lv_bipush (v := (8 : Int32)) hx hb dX12_feed_26 (by decide) ?_
    refine lv_iload hx hb dX12_feed_28 (lv_at hl 6 rfl) ?_
    refine lv_imul hx hb dX12_feed_30 ?_
    refine lv_isub hx hb dX12_feed_31 ?_
    refine lv_istore (lv' := [(7, .int ((24 : Int32) - ((8 : Int32) * v6))), (0, .ref hT), (1, .int v1), (2, .int v2), (3, .int v3), (4, .int v4), (5, .int v5), (6, .int v6)]) hx hb dX12_feed_32 hl (by decide) rfl (fun ls hl => ?_)
    refine lv_aload_n hx hb dX12_feed_34 rfl (lv_at hl 1 rfl) ?_
    refine va_get (D := D.1) (ci := 12) (v := .ref (aT 3)) (C := RX12) (T := TX12) (N := 114) hx hb hts wi_X12 hown X.1 X.2.1 0 rfl rfl 3 (by decide) (hts _ q6_197) (fun _ h9 => h9) (fl_get (by decide)) dX12_feed_35 ?_
    refine lv_aload_n hx hb dX12_feed_38 rfl (lv_at hl 1 rfl) ?_
    refine va_get (D := D.1) (ci := 12) (v := .int (gI gT 4)) (C := RX12) (T := TX12) (N := 114) hx hb hts wi_X12 hown X.1 X.2.1 0 rfl rfl 4 (by decide) (hts _ q6_198) (fun _ h9 => h9) (fl_get (by decide)) dX12_feed_39 ?_
    refine lv_iload hx hb dX12_feed_42 (lv_at hl 7 rfl) ?_
    refine lv_iadd hx hb dX12_feed_44 ?_
    refine lv_iload_n hx hb dX12_feed_45 rfl (lv_at hl 2 rfl) ?_
    refine lv_iload hx hb dX12_feed_46 (lv_at hl 0 rfl) ?_
    refine lv_ishr hx hb dX12_feed_48 ?_
    refine lv_i2b hx hb dX12_feed_49 rfl ?_
    obtain ⟨h_1, hF⟩ := grd_some hF
    refine va_bast (D := D.1) (f := gIA gT 3) hx hb X.1 X.2.1 X.2.2.1 X.2.2.2.1 1 0 rfl rfl (inB_ok h_1) dX12_feed_50 (fun H locs hP hD hS => ?_)
    have X : Hx D (tX12 yT) A s H locs (wX12 hT aT yT (sIA gT 3 (upd (gIA gT 3) ((gI gT 4) + v6).toNatClampNeg (vp_nar .byte ((v1 >>> (((24 : Int32) - ((8 : Int32) * v6)) &&& 31)).toInt8.toInt32))))) := Hx_set X (wG_sIA (i := 0) (k := 3) ndX12 rfl rfl) hP hD hS
    refine lv_aload_n hx hb dX12_feed_51 rfl (lv_at hl 1 rfl) ?_
    refine va_get (D := D.1) (ci := 12) (v := .ref (aT 3)) (C := RX12) (T := TX12) (N := 114) hx hb hts wi_X12 hown X.1 X.2.1 0 rfl rfl 3 (by decide) (hts _ q6_197) (fun _ h9 => h9) (fl_get (by decide)) dX12_feed_52 ?_
    refine lv_aload_n hx hb dX12_feed_55 rfl (lv_at hl 1 rfl) ?_
    refine va_get (D := D.1) (ci := 12) (v := .int (gI gT 4)) (C := RX12) (T := TX12) (N := 114) hx hb hts wi_X12 hown X.1 X.2.1 0 rfl rfl 4 (by decide) (hts _ q6_198) (fun _ h9 => h9) (fl_get (by decide)) dX12_feed_56 ?_
    refine lv_iconst (v := (4 : Int32)) hx hb dX12_feed_59 (by decide) ?_
    refine lv_iadd hx hb dX12_feed_60 ?_
    refine lv_iload hx hb dX12_feed_61 (lv_at hl 7 rfl) ?_
    refine lv_iadd hx hb dX12_feed_63 ?_
    refine lv_iload_n hx hb dX12_feed_64 rfl (lv_at hl 3 rfl) ?_
    refine lv_iload hx hb dX12_feed_65 (lv_at hl 0 rfl) ?_
    refine lv_ishr hx hb dX12_feed_67 ?_
    refine lv_i2b hx hb dX12_feed_68 rfl ?_
    obtain ⟨h_2, hF⟩ := grd_some hF
    refine va_bast (D := D.1) (f := upd (gIA gT 3) ((gI gT 4) + v6).toNatClampNeg (vp_nar .byte ((v1 >>> (((24 : Int32) - ((8 : Int32) * v6)) &&& 31)).toInt8.toInt32))) hx hb X.1 X.2.1 X.2.2.1 X.2.2.2.1 1 0 rfl rfl (inB_ok h_2) dX12_feed_69 (fun H locs hP hD hS => ?_)
    have X : Hx D (tX12 yT) A s H locs (wX12 hT aT yT (sIA (sIA gT 3 (upd (gIA gT 3) ((gI gT 4) + v6).toNatClampNeg (vp_nar .byte ((v1 >>> (((24 : Int32) - ((8 : Int32) * v6)) &&& 31)).toInt8.toInt32)))) 3 (upd (upd (gIA gT 3) ((gI gT 4) + v6).toNatClampNeg (vp_nar .byte ((v1 >>> (((24 : Int32) - ((8 : Int32) * v6)) &&& 31)).toInt8.toInt32))) (((gI gT 4) + (4 : Int32)) + v6).toNatClampNeg (vp_nar .byte ((v2 >>> (((24 : Int32) - ((8 : Int32) * v6)) &&& 31)).toInt8.toInt32))))) := Hx_set X (wG_sIA (i := 0) (k := 3) ndX12 rfl rfl) hP hD hS
    refine lv_aload_n hx hb dX12_feed_70 rfl (lv_at hl 1 rfl) ?_
    refine va_get (D := D.1) (ci := 12) (v := .ref (aT 3)) (C := RX12) (T := TX12) (N := 114) hx hb hts wi_X12 hown X.1 X.2.1 0 rfl rfl 3 (by decide) (hts _ q6_197) (fun _ h9 => h9) (fl_get (by decide)) dX12_feed_71 ?_
    refine lv_aload_n hx hb dX12_feed_74 rfl (lv_at hl 1 rfl) ?_
    refine va_get (D := D.1) (ci := 12) (v := .int (gI gT 4)) (C := RX12) (T := TX12) (N := 114) hx hb hts wi_X12 hown X.1 X.2.1 0 rfl rfl 4 (by decide) (hts _ q6_198) (fun _ h9 => h9) (fl_get (by decide)) dX12_feed_75 ?_
    refine lv_bipush (v := (8 : Int32)) hx hb dX12_feed_78 (by decide) ?_
    refine lv_iadd hx hb dX12_feed_80 ?_
    refine lv_iload hx hb dX12_feed_81 (lv_at hl 7 rfl) ?_
    refine lv_iadd hx hb dX12_feed_83 ?_
    refine lv_iload_n hx hb dX12_feed_84 rfl (lv_at hl 4 rfl) ?_
    refine lv_iload hx hb dX12_feed_85 (lv_at hl 0 rfl) ?_
    refine lv_ishr hx hb dX12_feed_87 ?_
    refine lv_i2b hx hb dX12_feed_88 rfl ?_
    obtain ⟨h_3, hF⟩ := grd_some hF
    refine va_bast (D := D.1) (f := upd (upd (gIA gT 3) ((gI gT 4) + v6).toNatClampNeg (vp_nar .byte ((v1 >>> (((24 : Int32) - ((8 : Int32) * v6)) &&& 31)).toInt8.toInt32))) (((gI gT 4) + (4 : Int32)) + v6).toNatClampNeg (vp_nar .byte ((v2 >>> (((24 : Int32) - ((8 : Int32) * v6)) &&& 31)).toInt8.toInt32))) hx hb X.1 X.2.1 X.2.2.1 X.2.2.2.1 1 0 rfl rfl (inB_ok h_3) dX12_feed_89 (fun H locs hP hD hS => ?_)
    have X : Hx D (tX12 yT) A s H locs (wX12 hT aT yT (sIA (sIA (sIA gT 3 (upd (gIA gT 3) ((gI gT 4) + v6).toNatClampNeg (vp_nar .byte ((v1 >>> (((24 : Int32) - ((8 : Int32) * v6)) &&& 31)).toInt8.toInt32)))) 3 (upd (upd (gIA gT 3) ((gI gT 4) + v6).toNatClampNeg (vp_nar .byte ((v1 >>> (((24 : Int32) - ((8 : Int32) * v6)) &&& 31)).toInt8.toInt32))) (((gI gT 4) + (4 : Int32)) + v6).toNatClampNeg (vp_nar .byte ((v2 >>> (((24 : Int32) - ((8 : Int32) * v6)) &&& 31)).toInt8.toInt32)))) 3 (upd (upd (upd (gIA gT 3) ((gI gT 4) + v6).toNatClampNeg (vp_nar .byte ((v1 >>> (((24 : Int32) - ((8 : Int32) * v6)) &&& 31)).toInt8.toInt32))) (((gI gT 4) + (4 : Int32)) + v6).toNatClampNeg (vp_nar .byte ((v2 >>> (((24 : Int32) - ((8 : Int32) * v6)) &&& 31)).toInt8.toInt32))) (((gI gT 4) + (8 : Int32)) + v6).toNatClampNeg (vp_nar .byte ((v3 >>> (((24 : Int32) - ((8 : Int32) * v6)) &&& 31)).toInt8.toInt32))))) := Hx_set X (wG_sIA (i := 0) (k := 3) ndX12 rfl rfl) hP hD hS
    refine lv_aload_n hx hb dX12_feed_90 rfl (lv_at hl 1 rfl) ?_
    refine va_get (D := D.1) (ci := 12) (v := .ref (aT 3)) (C := RX12) (T := TX12) (N := 114) hx hb hts wi_X12 hown X.1 X.2.1 0 rfl rfl 3 (by decide) (hts _ q6_197) (fun _ h9 => h9) (fl_get (by decide)) dX12_feed_91 ?_
    refine lv_aload_n hx hb dX12_feed_94 rfl (lv_at hl 1 rfl) ?_
    refine va_get (D := D.1) (ci := 12) (v := .int (gI gT 4)) (C := RX12) (T := TX12) (N := 114) hx hb hts wi_X12 hown X.1 X.2.1 0 rfl rfl 4 (by decide) (hts _ q6_198) (fun _ h9 => h9) (fl_get (by decide)) dX12_feed_95 ?_
    refine lv_bipush (v := (12 : Int32)) hx hb dX12_feed_98 (by decide) ?_
    refine lv_iadd hx hb dX12_feed_100 ?_
    refine lv_iload hx hb dX12_feed_101 (lv_at hl 7 rfl) ?_
    refine lv_iadd hx hb dX12_feed_103 ?_
    refine lv_iload hx hb dX12_feed_104 (lv_at hl 5 rfl) ?_
    refine lv_iload hx hb dX12_feed_106 (lv_at hl 0 rfl) ?_
    refine lv_ishr hx hb dX12_feed_108 ?_
    refine lv_i2b hx hb dX12_feed_109 rfl ?_
    obtain ⟨h_4, hF⟩ := grd_some hF
    refine va_bast (D := D.1) (f := upd (upd (upd (gIA gT 3) ((gI gT 4) + v6).toNatClampNeg (vp_nar .byte ((v1 >>> (((24 : Int32) - ((8 : Int32) * v6)) &&& 31)).toInt8.toInt32))) (((gI gT 4) + (4 : Int32)) + v6).toNatClampNeg (vp_nar .byte ((v2 >>> (((24 : Int32) - ((8 : Int32) * v6)) &&& 31)).toInt8.toInt32))) (((gI gT 4) + (8 : Int32)) + v6).toNatClampNeg (vp_nar .byte ((v3 >>> (((24 : Int32) - ((8 : Int32) * v6)) &&& 31)).toInt8.toInt32))) hx hb X.1 X.2.1 X.2.2.1 X.2.2.2.1 1 0 rfl rfl (inB_ok h_4) dX12_feed_110 (fun H locs hP hD hS => ?_)
    have X : Hx D (tX12 yT) A s H locs (wX12 hT aT yT (sIA (sIA (sIA (sIA gT 3 (upd (gIA gT 3) ((gI gT 4) + v6).toNatClampNeg (vp_nar .byte ((v1 >>> (((24 : Int32) - ((8 : Int32) * v6)) &&& 31)).toInt8.toInt32)))) 3 (upd (upd (gIA gT 3) ((gI gT 4) + v6).toNatClampNeg (vp_nar .byte ((v1 >>> (((24 : Int32) - ((8 : Int32) * v6)) &&& 31)).toInt8.toInt32))) (((gI gT 4) + (4 : Int32)) + v6).toNatClampNeg (vp_nar .byte ((v2 >>> (((24 : Int32) - ((8 : Int32) * v6)) &&& 31)).toInt8.toInt32)))) 3 (upd (upd (upd (gIA gT 3) ((gI gT 4) + v6).toNatClampNeg (vp_nar .byte ((v1 >>> (((24 : Int32) - ((8 : Int32) * v6)) &&& 31)).toInt8.toInt32))) (((gI gT 4) + (4 : Int32)) + v6).toNatClampNeg (vp_nar .byte ((v2 >>> (((24 : Int32) - ((8 : Int32) * v6)) &&& 31)).toInt8.toInt32))) (((gI gT 4) + (8 : Int32)) + v6).toNatClampNeg (vp_nar .byte ((v3 >>> (((24 : Int32) - ((8 : Int32) * v6)) &&& 31)).toInt8.toInt32)))) 3 (upd (upd (upd (upd (gIA gT 3) ((gI gT 4) + v6).toNatClampNeg (vp_nar .byte ((v1 >>> (((24 : Int32) - ((8 : Int32) * v6)) &&& 31)).toInt8.toInt32))) (((gI gT 4) + (4 : Int32)) + v6).toNatClampNeg (vp_nar .byte ((v2 >>> (((24 : Int32) - ((8 : Int32) * v6)) &&& 31)).toInt8.toInt32))) (((gI gT 4) + (8 : Int32)) + v6).toNatClampNeg (vp_nar .byte ((v3 >>> (((24 : Int32) - ((8 : Int32) * v6)) &&& 31)).toInt8.toInt32))) (((gI gT 4) + (12 : Int32)) + v6).toNatClampNeg (vp_nar .byte ((v4 >>> (((24 : Int32) - ((8 : Int32) * v6)) &&& 31)).toInt8.toInt32))))) := Hx_set X (wG_sIA (i := 0) (k := 3) ndX12 rfl rfl) hP hD hS
    refine lv_aload_n hx hb dX12_feed_111 rfl (lv_at hl 1 rfl) ?_
    refine va_get (D := D.1) (ci := 12) (v := .ref (aT 3)) (C := RX12) (T := TX12) (N := 114) hx hb hts wi_X12 hown X.1 X.2.1 0 rfl rfl 3 (by decide) (hts _ q6_197) (fun _ h9 => h9) (fl_get (by decide)) dX12_feed_112 ?_
    refine lv_aload_n hx hb dX12_feed_115 rfl (lv_at hl 1 rfl) ?_
    refine va_get (D := D.1) (ci := 12) (v := .int (gI gT 4)) (C := RX12) (T := TX12) (N := 114) hx hb hts wi_X12 hown X.1 X.2.1 0 rfl rfl 4 (by decide) (hts _ q6_198) (fun _ h9 => h9) (fl_get (by decide)) dX12_feed_116 ?_
    refine lv_bipush (v := (16 : Int32)) hx hb dX12_feed_119 (by decide) ?_
    refine lv_iadd hx hb dX12_feed_121 ?_
    refine lv_iload hx hb dX12_feed_122 (lv_at hl 7 rfl) ?_
    refine lv_iadd hx hb dX12_feed_124 ?_
    refine lv_iload hx hb dX12_feed_125 (lv_at hl 6 rfl) ?_
    refine lv_iload hx hb dX12_feed_127 (lv_at hl 0 rfl) ?_
    refine lv_ishr hx hb dX12_feed_129 ?_
    refine lv_i2b hx hb dX12_feed_130 rfl ?_
    obtain ⟨h_5, hF⟩ := grd_some hF
    refine va_bast (D := D.1) (f := upd (upd (upd (upd (gIA gT 3) ((gI gT 4) + v6).toNatClampNeg (vp_nar .byte ((v1 >>> (((24 : Int32) - ((8 : Int32) * v6)) &&& 31)).toInt8.toInt32))) (((gI gT 4) + (4 : Int32)) + v6).toNatClampNeg (vp_nar .byte ((v2 >>> (((24 : Int32) - ((8 : Int32) * v6)) &&& 31)).toInt8.toInt32))) (((gI gT 4) + (8 : Int32)) + v6).toNatClampNeg (vp_nar .byte ((v3 >>> (((24 : Int32) - ((8 : Int32) * v6)) &&& 31)).toInt8.toInt32))) (((gI gT 4) + (12 : Int32)) + v6).toNatClampNeg (vp_nar .byte ((v4 >>> (((24 : Int32) - ((8 : Int32) * v6)) &&& 31)).toInt8.toInt32))) hx hb X.1 X.2.1 X.2.2.1 X.2.2.2.1 1 0 rfl rfl (inB_ok h_5) dX12_feed_131 (fun H locs hP hD hS => ?_)
    have X : Hx D (tX12 yT) A s H locs (wX12 hT aT yT (sIA (sIA (sIA (sIA (sIA gT 3 (upd (gIA gT 3) ((gI gT 4) + v6).toNatClampNeg (vp_nar .byte ((v1 >>> (((24 : Int32) - ((8 : Int32) * v6)) &&& 31)).toInt8.toInt32)))) 3 (upd (upd (gIA gT 3) ((gI gT 4) + v6).toNatClampNeg (vp_nar .byte ((v1 >>> (((24 : Int32) - ((8 : Int32) * v6)) &&& 31)).toInt8.toInt32))) (((gI gT 4) + (4 : Int32)) + v6).toNatClampNeg (vp_nar .byte ((v2 >>> (((24 : Int32) - ((8 : Int32) * v6)) &&& 31)).toInt8.toInt32)))) 3 (upd (upd (upd (gIA gT 3) ((gI gT 4) + v6).toNatClampNeg (vp_nar .byte ((v1 >>> (((24 : Int32) - ((8 : Int32) * v6)) &&& 31)).toInt8.toInt32))) (((gI gT 4) + (4 : Int32)) + v6).toNatClampNeg (vp_nar .byte ((v2 >>> (((24 : Int32) - ((8 : Int32) * v6)) &&& 31)).toInt8.toInt32))) (((gI gT 4) + (8 : Int32)) + v6).toNatClampNeg (vp_nar .byte ((v3 >>> (((24 : Int32) - ((8 : Int32) * v6)) &&& 31)).toInt8.toInt32)))) 3 (upd (upd (upd (upd (gIA gT 3) ((gI gT 4) + v6).toNatClampNeg (vp_nar .byte ((v1 >>> (((24 : Int32) - ((8 : Int32) * v6)) &&& 31)).toInt8.toInt32))) (((gI gT 4) + (4 : Int32)) + v6).toNatClampNeg (vp_nar .byte ((v2 >>> (((24 : Int32) - ((8 : Int32) * v6)) &&& 31)).toInt8.toInt32))) (((gI gT 4) + (8 : Int32)) + v6).toNatClampNeg (vp_nar .byte ((v3 >>> (((24 : Int32) - ((8 : Int32) * v6)) &&& 31)).toInt8.toInt32))) (((gI gT 4) + (12 : Int32)) + v6).toNatClampNeg (vp_nar .byte ((v4 >>> (((24 : Int32) - ((8 : Int32) * v6)) &&& 31)).toInt8.toInt32)))) 3 (upd (upd (upd (upd (upd (gIA gT 3) ((gI gT 4) + v6).toNatClampNeg (vp_nar .byte ((v1 >>> (((24 : Int32) - ((8 : Int32) * v6)) &&& 31)).toInt8.toInt32))) (((gI gT 4) + (4 : Int32)) + v6).toNatClampNeg (vp_nar .byte ((v2 >>> (((24 : Int32) - ((8 : Int32) * v6)) &&& 31)).toInt8.toInt32))) (((gI gT 4) + (8 : Int32)) + v6).toNatClampNeg (vp_nar .byte ((v3 >>> (((24 : Int32) - ((8 : Int32) * v6)) &&& 31)).toInt8.toInt32))) (((gI gT 4) + (12 : Int32)) + v6).toNatClampNeg (vp_nar .byte ((v4 >>> (((24 : Int32) - ((8 : Int32) * v6)) &&& 31)).toInt8.toInt32))) (((gI gT 4) + (16 : Int32)) + v6).toNatClampNeg (vp_nar .byte ((v5 >>> (((24 : Int32) - ((8 : Int32) * v6)) &&& 31)).toInt8.toInt32))))) := Hx_set X (wG_sIA (i := 0) (k := 3) ndX12 rfl rfl) hP hD hS
    refine lv_iinc (v := v6 + (1 : Int32)) (lv' := [(6, .int (v6 + (1 : Int32))), (7, .int ((24 : Int32) - ((8 : Int32) * v6))), (0, .ref hT), (1, .int v1), (2, .int v2), (3, .int v3), (4, .int v4), (5, .int v5)]) hx hb dX12_feed_132 hl (k := 7) rfl rfl (by decide) rfl (fun ls hl => ?_)
    refine lv_goto (tgt := 18) hx hb dX12_feed_135 (by decide) ?_
    exact IH C X (lv_sub hl [2, 3, 4, 5, 6, 7, 0] rfl) hF
theorem kL_X12_feed (l : Launch) (D : Dx) (hT : Nat) (aT : Nat → Nat) (yT : Nat → ClassId) (n : Nat) : ∀ k, SH_X12_feed l D hT aT yT (L_X12_feed n k)
  | 0 => fun _ _ _ h => by cases h
  | k + 1 => k_X12_feed_18 l D hT aT yT n _ (kL_X12_feed l D hT aT yT n k)
set_option maxHeartbeats 4000000 in
set_option maxRecDepth 100000 in
theorem c_X12_feed (l : Launch) (D : Dx) (hT : Nat) (aT : Nat → Nat) (yT : Nat → ClassId) (n : Nat) (gT : Gs) (x0 : Int32) (x1 : Int32) (x2 : Int32) (x3 : Int32) (x4 : Int32) (q : Int32 × Gs) (hF : f_X12_feed n gT x0 x1 x2 x3 x4 = some q) (sz : Nat) : Met l yX12_feed (ws_ yX12_feed cX12_feed 8 (some .int)) R_X12_feed (PC D (tX12 yT) [.ref hT, .int x0, .int x1, .int x2, .int x3, .int x4] (wX12 hT aT yT gT) sz) (QI D (va_A (wX12 hT aT yT gT) sz) (wX12 hT aT yT q.2) q.1) 0 0 (va_A (wX12 hT aT yT gT) sz) := by
  refine Met.ofW (cc := cX12_feed) (maxL := 8) (ret := (some .int)) (by decide) rfl ?_
  intro p e s m args below meth c s₁ B hml hv
  obtain ⟨rfl, hsz, hP, hK, hD, hN⟩ := hv
  subst hsz
  have C : Cx p s m _ meth c cX12_feed (some .int) 8 RX12 lw_all := Cx_of B hml
  have X := Hx_start hP hK hD hN
  obtain ⟨hx, hb, hr, -, hown, hts, hlk⟩ := id C
  generalize va_A (wX12 hT aT yT gT) s.heap.size = A at X ⊢
  have hl := lv_entry ([.ref hT, .int x0, .int x1, .int x2, .int x3, .int x4]) (n := 8) (Nat.le_of_ble_eq_true rfl)
  rw [lg_entry_eq]
  generalize (lg_sl ([.ref hT, .int x0, .int x1, .int x2, .int x3, .int x4]) ++ List.replicate (8 - (lg_sl ([.ref hT, .int x0, .int x1, .int x2, .int x3, .int x4])).length) Slot.unset).toArray = ls at hl ⊢
  have hl : lv_has ls 8 [(0, .ref hT), (1, .int x0), (2, .int x1), (3, .int x2), (4, .int x3), (5, .int x4)] := hl
  unfold f_X12_feed at hF
  refine lv_aload_n hx hb dX12_feed_0 rfl (lv_at hl 0 rfl) ?_
  refine va_get (D := D.1) (ci := 12) (v := .int (gI gT 4)) (C := RX12) (T := TX12) (N := 114) hx hb hts wi_X12 hown X.1 X.2.1 0 rfl rfl 4 (by decide) (hts _ q6_198) (fun _ h9 => h9) (fl_get (by decide)) dX12_feed_1 ?_
  refine lv_bipush (v := (20 : Int32)) hx hb dX12_feed_4 (by decide) ?_
  refine lv_iadd hx hb dX12_feed_6 ?_
  refine lv_sipush (v := (3000 : Int32)) hx hb dX12_feed_7 (by decide) ?_
  refine lv_icmp_le (tgt := 15) hx hb dX12_feed_10 (by decide) (fun c => ?_) (fun c => ?_)
  · replace hF := iT c hF
    refine lv_iconst (v := (0 : Int32)) hx hb dX12_feed_15 (by decide) ?_
    refine lv_istore (lv' := [(6, .int (0 : Int32)), (0, .ref hT), (1, .int x0), (2, .int x1), (3, .int x2), (4, .int x3), (5, .int x4)]) hx hb dX12_feed_16 hl (by decide) rfl (fun ls hl => ?_)
    exact (kL_X12_feed l D hT aT yT n n) C X (lv_sub hl [1, 2, 3, 4, 5, 6, 0] rfl) hF
  · replace hF := iF c hF
    refine lv_iconst (v := (-1 : Int32)) hx hb dX12_feed_13 (by decide) ?_
    have hq := Option.some.inj hF
    subst hq
    exact rt_i C X dX12_feed_14

/-! ### X12_end -/
theorem dX12_end_0 : decode cX12_end 0 = .ok (.iload_n 1, 1) := by decide +kernel
theorem dX12_end_1 : decode cX12_end 1 = .ok (.ifCond .lt 11, 3) := by decide +kernel
theorem dX12_end_4 : decode cX12_end 4 = .ok (.iload_n 1, 1) := by decide +kernel
theorem dX12_end_5 : decode cX12_end 5 = .ok (.aload_n 0, 1) := by decide +kernel
theorem dX12_end_6 : decode cX12_end 6 = .ok (.getfield 13, 3) := by decide +kernel
theorem dX12_end_9 : decode cX12_end 9 = .ok (.if_icmp .le 5, 3) := by decide +kernel
theorem dX12_end_12 : decode cX12_end 12 = .ok (.iconst (-1), 1) := by decide +kernel
theorem dX12_end_13 : decode cX12_end 13 = .ok (.ireturn, 1) := by decide +kernel
theorem dX12_end_14 : decode cX12_end 14 = .ok (.aload_n 0, 1) := by decide +kernel
theorem dX12_end_15 : decode cX12_end 15 = .ok (.iload_n 1, 1) := by decide +kernel
theorem dX12_end_16 : decode cX12_end 16 = .ok (.putfield 13, 3) := by decide +kernel
theorem dX12_end_19 : decode cX12_end 19 = .ok (.iload_n 1, 1) := by decide +kernel
theorem dX12_end_20 : decode cX12_end 20 = .ok (.ireturn, 1) := by decide +kernel
abbrev R_X12_end : Room := ({ frames := 0, cells := 0, slots := 0, locals := 0 } : Room)
def f_X12_end (gT : Gs) (x0 : Int32) : Option (Int32 × Gs) :=
  if x0 < 0 then (some ((-1 : Int32), gT)) else (if x0 ≤ (gI gT 4) then (some (x0, (sI gT 4 x0))) else (some ((-1 : Int32), gT)))
set_option maxHeartbeats 4000000 in
set_option maxRecDepth 100000 in
theorem c_X12_end (l : Launch) (D : Dx) (hT : Nat) (aT : Nat → Nat) (yT : Nat → ClassId) (gT : Gs) (x0 : Int32) (q : Int32 × Gs) (hF : f_X12_end gT x0 = some q) (sz : Nat) : Met l yX12_end (ws_ yX12_end cX12_end 2 (some .int)) R_X12_end (PC D (tX12 yT) [.ref hT, .int x0] (wX12 hT aT yT gT) sz) (QI D (va_A (wX12 hT aT yT gT) sz) (wX12 hT aT yT q.2) q.1) 0 0 (va_A (wX12 hT aT yT gT) sz) := by
  refine Met.ofW (cc := cX12_end) (maxL := 2) (ret := (some .int)) (by decide) rfl ?_
  intro p e s m args below meth c s₁ B hml hv
  obtain ⟨rfl, hsz, hP, hK, hD, hN⟩ := hv
  subst hsz
  have C : Cx p s m _ meth c cX12_end (some .int) 2 RX12 lw_all := Cx_of B hml
  have X := Hx_start hP hK hD hN
  obtain ⟨hx, hb, hr, -, hown, hts, hlk⟩ := id C
  generalize va_A (wX12 hT aT yT gT) s.heap.size = A at X ⊢
  have hl := lv_entry ([.ref hT, .int x0]) (n := 2) (Nat.le_of_ble_eq_true rfl)
  rw [lg_entry_eq]
  generalize (lg_sl ([.ref hT, .int x0]) ++ List.replicate (2 - (lg_sl ([.ref hT, .int x0])).length) Slot.unset).toArray = ls at hl ⊢
  have hl : lv_has ls 2 [(0, .ref hT), (1, .int x0)] := hl
  unfold f_X12_end at hF
  refine lv_iload_n hx hb dX12_end_0 rfl (lv_at hl 1 rfl) ?_
  refine lv_if_lt (tgt := 12) hx hb dX12_end_1 (by decide) (fun c => ?_) (fun c => ?_)
  · replace hF := iT c hF
    refine lv_iconst (v := (-1 : Int32)) hx hb dX12_end_12 (by decide) ?_
    have hq := Option.some.inj hF
    subst hq
    exact rt_i C X dX12_end_13
  · replace hF := iF c hF
    refine lv_iload_n hx hb dX12_end_4 rfl (lv_at hl 1 rfl) ?_
    refine lv_aload_n hx hb dX12_end_5 rfl (lv_at hl 0 rfl) ?_
    refine va_get (D := D.1) (ci := 12) (v := .int (gI gT 4)) (C := RX12) (T := TX12) (N := 114) hx hb hts wi_X12 hown X.1 X.2.1 0 rfl rfl 4 (by decide) (hts _ q6_198) (fun _ h9 => h9) (fl_get (by decide)) dX12_end_6 ?_
    refine lv_icmp_le (tgt := 14) hx hb dX12_end_9 (by decide) (fun c => ?_) (fun c => ?_)
    · replace hF := iT c hF
      refine lv_aload_n hx hb dX12_end_14 rfl (lv_at hl 0 rfl) ?_
      refine lv_iload_n hx hb dX12_end_15 rfl (lv_at hl 1 rfl) ?_
      refine va_put (D := D.1) (ci := 12) (v := .int x0) (ty := .int) (C := RX12) (T := TX12) (N := 114) hx hb hts wi_X12 tyX12 tyX12_ok nmX12 hown X.1 X.2.1 X.2.2.1 X.2.2.2.1 0 rfl rfl 4 (by decide) (hts _ q6_198) (fun _ h9 => h9) rfl (by decide +kernel) rfl rfl (by rw [List.length_map, List.length_range]; decide) dX12_end_16 (fun H locs hP hD hS => ?_)
      have X : Hx D (tX12 yT) A s H locs (wX12 hT aT yT (sI gT 4 x0)) := Hx_set X (wG_sI (k := 4) rfl) hP hD hS
      refine lv_iload_n hx hb dX12_end_19 rfl (lv_at hl 1 rfl) ?_
      have hq := Option.some.inj hF
      subst hq
      exact rt_i C X dX12_end_20
    · replace hF := iF c hF
      refine lv_iconst (v := (-1 : Int32)) hx hb dX12_end_12 (by decide) ?_
      have hq := Option.some.inj hF
      subst hq
      exact rt_i C X dX12_end_13

/-! ### X12_reckoned -/
theorem dX12_reckoned_0 : decode cX12_reckoned 0 = .ok (.aload_n 0, 1) := by decide +kernel
theorem dX12_reckoned_1 : decode cX12_reckoned 1 = .ok (.lload_n 2, 1) := by decide +kernel
theorem dX12_reckoned_2 : decode cX12_reckoned 2 = .ok (.iload 6, 2) := by decide +kernel
theorem dX12_reckoned_4 : decode cX12_reckoned 4 = .ok (.bipush 7, 2) := by decide +kernel
theorem dX12_reckoned_6 : decode cX12_reckoned 6 = .ok (.invokevirtual 488, 3) := by decide +kernel
theorem dX12_reckoned_9 : decode cX12_reckoned 9 = .ok (.invokestatic 491, 3) := by decide +kernel
theorem dX12_reckoned_12 : decode cX12_reckoned 12 = .ok (.dstore 7, 2) := by decide +kernel
theorem dX12_reckoned_14 : decode cX12_reckoned 14 = .ok (.aload_n 0, 1) := by decide +kernel
theorem dX12_reckoned_15 : decode cX12_reckoned 15 = .ok (.lload 4, 2) := by decide +kernel
theorem dX12_reckoned_17 : decode cX12_reckoned 17 = .ok (.iload 6, 2) := by decide +kernel
theorem dX12_reckoned_19 : decode cX12_reckoned 19 = .ok (.bipush 7, 2) := by decide +kernel
theorem dX12_reckoned_21 : decode cX12_reckoned 21 = .ok (.invokevirtual 488, 3) := by decide +kernel
theorem dX12_reckoned_24 : decode cX12_reckoned 24 = .ok (.invokestatic 491, 3) := by decide +kernel
theorem dX12_reckoned_27 : decode cX12_reckoned 27 = .ok (.dstore 9, 2) := by decide +kernel
theorem dX12_reckoned_29 : decode cX12_reckoned 29 = .ok (.iload_n 1, 1) := by decide +kernel
theorem dX12_reckoned_30 : decode cX12_reckoned 30 = .ok (.bipush 43, 2) := by decide +kernel
theorem dX12_reckoned_32 : decode cX12_reckoned 32 = .ok (.if_icmp .ne 11, 3) := by decide +kernel
theorem dX12_reckoned_35 : decode cX12_reckoned 35 = .ok (.dload 7, 2) := by decide +kernel
theorem dX12_reckoned_37 : decode cX12_reckoned 37 = .ok (.dload 9, 2) := by decide +kernel
theorem dX12_reckoned_39 : decode cX12_reckoned 39 = .ok (.dadd, 1) := by decide +kernel
theorem dX12_reckoned_40 : decode cX12_reckoned 40 = .ok (.goto 36, 3) := by decide +kernel
theorem dX12_reckoned_43 : decode cX12_reckoned 43 = .ok (.iload_n 1, 1) := by decide +kernel
theorem dX12_reckoned_44 : decode cX12_reckoned 44 = .ok (.bipush 45, 2) := by decide +kernel
theorem dX12_reckoned_46 : decode cX12_reckoned 46 = .ok (.if_icmp .ne 11, 3) := by decide +kernel
theorem dX12_reckoned_49 : decode cX12_reckoned 49 = .ok (.dload 7, 2) := by decide +kernel
theorem dX12_reckoned_51 : decode cX12_reckoned 51 = .ok (.dload 9, 2) := by decide +kernel
theorem dX12_reckoned_53 : decode cX12_reckoned 53 = .ok (.dsub, 1) := by decide +kernel
theorem dX12_reckoned_54 : decode cX12_reckoned 54 = .ok (.goto 22, 3) := by decide +kernel
theorem dX12_reckoned_57 : decode cX12_reckoned 57 = .ok (.iload_n 1, 1) := by decide +kernel
theorem dX12_reckoned_58 : decode cX12_reckoned 58 = .ok (.bipush 42, 2) := by decide +kernel
theorem dX12_reckoned_60 : decode cX12_reckoned 60 = .ok (.if_icmp .ne 11, 3) := by decide +kernel
theorem dX12_reckoned_63 : decode cX12_reckoned 63 = .ok (.dload 7, 2) := by decide +kernel
theorem dX12_reckoned_65 : decode cX12_reckoned 65 = .ok (.dload 9, 2) := by decide +kernel
theorem dX12_reckoned_67 : decode cX12_reckoned 67 = .ok (.dmul, 1) := by decide +kernel
theorem dX12_reckoned_68 : decode cX12_reckoned 68 = .ok (.goto 8, 3) := by decide +kernel
theorem dX12_reckoned_71 : decode cX12_reckoned 71 = .ok (.dload 7, 2) := by decide +kernel
theorem dX12_reckoned_73 : decode cX12_reckoned 73 = .ok (.dload 9, 2) := by decide +kernel
theorem dX12_reckoned_75 : decode cX12_reckoned 75 = .ok (.ddiv, 1) := by decide +kernel
theorem dX12_reckoned_76 : decode cX12_reckoned 76 = .ok (.dstore 11, 2) := by decide +kernel
theorem dX12_reckoned_78 : decode cX12_reckoned 78 = .ok (.dload 11, 2) := by decide +kernel
theorem dX12_reckoned_80 : decode cX12_reckoned 80 = .ok (.invokestatic 497, 3) := by decide +kernel
theorem dX12_reckoned_83 : decode cX12_reckoned 83 = .ok (.lstore 13, 2) := by decide +kernel
theorem dX12_reckoned_85 : decode cX12_reckoned 85 = .ok (.lload 13, 2) := by decide +kernel
theorem dX12_reckoned_87 : decode cX12_reckoned 87 = .ok (.invokestatic 501, 3) := by decide +kernel
theorem dX12_reckoned_90 : decode cX12_reckoned 90 = .ok (.ifCond .ne 7, 3) := by decide +kernel
theorem dX12_reckoned_93 : decode cX12_reckoned 93 = .ok (.ldc2_w 424, 3) := by decide +kernel
theorem dX12_reckoned_96 : decode cX12_reckoned 96 = .ok (.lreturn, 1) := by decide +kernel
theorem dX12_reckoned_97 : decode cX12_reckoned 97 = .ok (.aload_n 0, 1) := by decide +kernel
theorem dX12_reckoned_98 : decode cX12_reckoned 98 = .ok (.lload 13, 2) := by decide +kernel
theorem dX12_reckoned_100 : decode cX12_reckoned 100 = .ok (.bipush 7, 2) := by decide +kernel
theorem dX12_reckoned_102 : decode cX12_reckoned 102 = .ok (.iload 6, 2) := by decide +kernel
theorem dX12_reckoned_104 : decode cX12_reckoned 104 = .ok (.invokevirtual 488, 3) := by decide +kernel
theorem dX12_reckoned_107 : decode cX12_reckoned 107 = .ok (.lreturn, 1) := by decide +kernel
abbrev R_X12_reckoned : Room := ({ frames := 4, cells := 0, slots := 0, locals := 104 } : Room)
def b_X12_reckoned_76 (n : Nat) (gT : Gs) (v6 : Int32) (s0 : UInt64) : Option (Int64 × Gs) :=
  bnd (f_Jxe99ae_doubleToLongBits_ccdee s0) (fun q_8 => bnd (f_X12_isFinite q_8) (fun q_10 => if q_10 = 0 then (some ((9223372036854775807 : Int64), gT)) else (bnd (f_X12_become n gT q_8 (7 : Int32) v6) (fun q_12 => some (q_12.1, q_12.2)))))
def f_X12_reckoned (n : Nat) (gT : Gs) (x0 : Int32) (x1 : Int64) (x2 : Int64) (x3 : Int32) : Option (Int64 × Gs) :=
  bnd (f_X12_become n gT x1 x3 (7 : Int32)) (fun q_1 => grd (nsnB q_1.1) (bnd (f_X12_become n q_1.2 x2 x3 (7 : Int32)) (fun q_4 => grd (nsnB q_4.1) (if x0 = (43 : Int32) then (grd (n64 (FP.dadd q_1.1.toUInt64 q_4.1.toUInt64)) (b_X12_reckoned_76 n q_4.2 x3 (FP.dadd q_1.1.toUInt64 q_4.1.toUInt64))) else (if x0 = (45 : Int32) then (grd (n64 (FP.dsub q_1.1.toUInt64 q_4.1.toUInt64)) (b_X12_reckoned_76 n q_4.2 x3 (FP.dsub q_1.1.toUInt64 q_4.1.toUInt64))) else (if x0 = (42 : Int32) then (grd (n64 (FP.dmul q_1.1.toUInt64 q_4.1.toUInt64)) (b_X12_reckoned_76 n q_4.2 x3 (FP.dmul q_1.1.toUInt64 q_4.1.toUInt64))) else (grd (n64 (FP.ddiv q_1.1.toUInt64 q_4.1.toUInt64)) (b_X12_reckoned_76 n q_4.2 x3 (FP.ddiv q_1.1.toUInt64 q_4.1.toUInt64)))))))))
def S_X12_reckoned_76 (l : Launch) (D : Dx) (hT : Nat) (aT : Nat → Nat) (yT : Nat → ClassId) (fn : Gs → Int32 → UInt64 → Option (Int64 × Gs)) : Prop :=
  ∀ {p : Program} {e : Env} {s : State} {m : MethodId} {args : Array Value} {below : List Frame} {meth : Method} {c : Code} {H : Heap} {locs : List Loc} {A : Nat → Prop} {ls : Array Slot} {gT : Gs} {v6 : Int32} {s0 : UInt64} {q : Int64 × Gs}, Cx p s m args meth c cX12_reckoned (some .long) 15 RX12 lw_all → Hx D (tX12 yT) A s H locs (wX12 hT aT yT gT) → lv_has ls 15 [(0, .ref hT), (6, .int v6)] → fn gT v6 s0 = some q → W p l e R_X12_reckoned s m args below meth c H locs 0 0 (MQ below (QL D A (wX12 hT aT yT q.2) q.1) args s 0 0 A) (F0 m 76 ls [.double s0])
set_option maxHeartbeats 4000000 in
set_option maxRecDepth 100000 in
theorem k_X12_reckoned_76 (l : Launch) (D : Dx) (hT : Nat) (aT : Nat → Nat) (yT : Nat → ClassId) (n : Nat) : S_X12_reckoned_76 l D hT aT yT (b_X12_reckoned_76 n) := by
  intro p e s m args below meth c H locs A ls gT v6 s0 q C X hl hF
  obtain ⟨hx, hb, hr, hml, hown, hts, hlk⟩ := id C
  unfold b_X12_reckoned_76 at hF
  refine lv_dstore (lv' := [(11, .double s0), (0, .ref hT), (6, .int v6)]) hx hb dX12_reckoned_76 hl (by decide) rfl (fun ls hl => ?_)
  refine lv_dload hx hb dX12_reckoned_78 (lv_at hl 0 rfl) ?_
  obtain ⟨q_8, hc_9, hF⟩ := bnd_some hF
  refine cS_l (As := [.double s0]) (rest := []) C X (c_Jxe99ae_doubleToLongBits_ccdee l D  s0 q_8 hc_9 _) (va_cwS 1 hts (good_S q8_110 q8_111 q1_24 q8_112) rfl rfl rfl (by decide +kernel) ⟨Nat.le_of_ble_eq_true rfl, Nat.le_of_ble_eq_true rfl⟩) (eK X) eP (eD (A := A)) (eF X) hl.1 rfl rfl (Nat.le_of_ble_eq_true rfl) dX12_reckoned_80 ⟨Nat.le_of_ble_eq_true rfl, Nat.le_of_ble_eq_true rfl⟩ (fun t H1 locs1 ht hB hk hS => ?_)
  have X := Hx_after_none X hk hS
  clear hk hS ht hB
  generalize H1 = H at X ⊢
  generalize locs1 = locs at X ⊢
  refine lv_lstore (lv' := [(13, .long q_8), (11, .double s0), (0, .ref hT), (6, .int v6)]) hx hb dX12_reckoned_83 hl (by decide) rfl (fun ls hl => ?_)
  refine lv_lload hx hb dX12_reckoned_85 (lv_at hl 0 rfl) ?_
  obtain ⟨q_10, hc_11, hF⟩ := bnd_some hF
  refine cS_i (As := [.long q_8]) (rest := []) C X (c_X12_isFinite l D  q_8 q_10 hc_11 _) (va_cwS 1 hts (good_S q9_121 q9_122 q1_9 q9_123) rfl rfl rfl (by decide +kernel) ⟨Nat.le_of_ble_eq_true rfl, Nat.le_of_ble_eq_true rfl⟩) (eK X) eP (eD (A := A)) (eF X) hl.1 rfl rfl (Nat.le_of_ble_eq_true rfl) dX12_reckoned_87 ⟨Nat.le_of_ble_eq_true rfl, Nat.le_of_ble_eq_true rfl⟩ (fun t H1 locs1 ht hB hk hS => ?_)
  have X := Hx_after_none X hk hS
  clear hk hS ht hB
  generalize H1 = H at X ⊢
  generalize locs1 = locs at X ⊢
  refine lv_if_ne (tgt := 97) hx hb dX12_reckoned_90 (by decide) (fun c => ?_) (fun c => ?_)
  · replace hF := iF c hF
    refine lv_aload_n hx hb dX12_reckoned_97 rfl (lv_at hl 2 rfl) ?_
    refine lv_lload hx hb dX12_reckoned_98 (lv_at hl 0 rfl) ?_
    refine lv_bipush (v := (7 : Int32)) hx hb dX12_reckoned_100 (by decide) ?_
    refine lv_iload hx hb dX12_reckoned_102 (lv_at hl 3 rfl) ?_
    obtain ⟨q_12, hc_13, hF⟩ := bnd_some hF
    refine cV_l (As := [.long q_8, .int (7 : Int32), .int v6]) (rest := []) C X (c_X12_become l D hT aT yT n gT q_8 (7 : Int32) v6 q_12 hc_13 _) (cwV 3 hts (good_V q8_136 q8_138 q0_73 q1_9 q8_139) rfl rfl rfl (by decide +kernel) ⟨Nat.le_of_ble_eq_true rfl, Nat.le_of_ble_eq_true rfl⟩) (va_recv X.1 X.2.1 (ci := 12) (q0 := 0) rfl rfl) X.1 X.2.1 X.2.2.1 (free_all X) hl.1 rfl rfl (Nat.le_of_ble_eq_true rfl) dX12_reckoned_104 ⟨Nat.le_of_ble_eq_true rfl, Nat.le_of_ble_eq_true rfl⟩ (fun t H1 locs1 ht hB hk hS => ?_)
    have X : Hx D (tX12 yT) A s H1 locs1 (wX12 hT aT yT q_12.2) := Hx_after_all X ht hB hS
    clear hk hS ht hB
    generalize H1 = H at X ⊢
    generalize locs1 = locs at X ⊢
    have hq := Option.some.inj hF
    subst hq
    exact rt_l C X dX12_reckoned_107
  · replace hF := iT c hF
    refine lv_ldc2 hx hb hown (hts _ q8_99) dX12_reckoned_93 ?_
    have hq := Option.some.inj hF
    subst hq
    exact rt_l C X dX12_reckoned_96
set_option maxHeartbeats 4000000 in
set_option maxRecDepth 100000 in
theorem c_X12_reckoned (l : Launch) (D : Dx) (hT : Nat) (aT : Nat → Nat) (yT : Nat → ClassId) (n : Nat) (gT : Gs) (x0 : Int32) (x1 : Int64) (x2 : Int64) (x3 : Int32) (q : Int64 × Gs) (hF : f_X12_reckoned n gT x0 x1 x2 x3 = some q) (sz : Nat) : Met l yX12_reckoned (ws_ yX12_reckoned cX12_reckoned 15 (some .long)) R_X12_reckoned (PC D (tX12 yT) [.ref hT, .int x0, .long x1, .long x2, .int x3] (wX12 hT aT yT gT) sz) (QL D (va_A (wX12 hT aT yT gT) sz) (wX12 hT aT yT q.2) q.1) 0 0 (va_A (wX12 hT aT yT gT) sz) := by
  refine Met.ofW (cc := cX12_reckoned) (maxL := 15) (ret := (some .long)) (by decide) rfl ?_
  intro p e s m args below meth c s₁ B hml hv
  obtain ⟨rfl, hsz, hP, hK, hD, hN⟩ := hv
  subst hsz
  have C : Cx p s m _ meth c cX12_reckoned (some .long) 15 RX12 lw_all := Cx_of B hml
  have X := Hx_start hP hK hD hN
  obtain ⟨hx, hb, hr, -, hown, hts, hlk⟩ := id C
  generalize va_A (wX12 hT aT yT gT) s.heap.size = A at X ⊢
  have hl := lv_entry ([.ref hT, .int x0, .long x1, .long x2, .int x3]) (n := 15) (Nat.le_of_ble_eq_true rfl)
  rw [lg_entry_eq]
  generalize (lg_sl ([.ref hT, .int x0, .long x1, .long x2, .int x3]) ++ List.replicate (15 - (lg_sl ([.ref hT, .int x0, .long x1, .long x2, .int x3])).length) Slot.unset).toArray = ls at hl ⊢
  have hl : lv_has ls 15 [(0, .ref hT), (1, .int x0), (2, .long x1), (4, .long x2), (6, .int x3)] := hl
  unfold f_X12_reckoned at hF
  refine lv_aload_n hx hb dX12_reckoned_0 rfl (lv_at hl 0 rfl) ?_
  refine lv_lload_n hx hb dX12_reckoned_1 rfl (lv_at hl 2 rfl) ?_
  refine lv_iload hx hb dX12_reckoned_2 (lv_at hl 4 rfl) ?_
  refine lv_bipush (v := (7 : Int32)) hx hb dX12_reckoned_4 (by decide) ?_
  obtain ⟨q_1, hc_2, hF⟩ := bnd_some hF
  refine cV_l (As := [.long x1, .int x3, .int (7 : Int32)]) (rest := []) C X (c_X12_become l D hT aT yT n gT x1 x3 (7 : Int32) q_1 hc_2 _) (cwV 3 hts (good_V q8_136 q8_138 q0_73 q1_9 q8_139) rfl rfl rfl (by decide +kernel) ⟨Nat.le_of_ble_eq_true rfl, Nat.le_of_ble_eq_true rfl⟩) (va_recv X.1 X.2.1 (ci := 12) (q0 := 0) rfl rfl) X.1 X.2.1 X.2.2.1 (free_all X) hl.1 rfl rfl (Nat.le_of_ble_eq_true rfl) dX12_reckoned_6 ⟨Nat.le_of_ble_eq_true rfl, Nat.le_of_ble_eq_true rfl⟩ (fun t H1 locs1 ht hB hk hS => ?_)
  have X : Hx D (tX12 yT) A s H1 locs1 (wX12 hT aT yT q_1.2) := Hx_after_all X ht hB hS
  clear hk hS ht hB
  generalize H1 = H at X ⊢
  generalize locs1 = locs at X ⊢
  obtain ⟨h_3, hF⟩ := grd_some hF
  refine vn_l2d hx hb (by rw [hml]; exact hl.1.symm) hown (hts _ q9_118) (hts _ q9_120) (hts _ q9_119) (hts _ q1_24) (nsnB_ok h_3) (Nat.le_of_ble_eq_true rfl) (Nat.le_of_ble_eq_true rfl) dX12_reckoned_9 ?_
  refine lv_dstore (lv' := [(7, .double q_1.1.toUInt64), (0, .ref hT), (1, .int x0), (2, .long x1), (4, .long x2), (6, .int x3)]) hx hb dX12_reckoned_12 hl (by decide) rfl (fun ls hl => ?_)
  refine lv_aload_n hx hb dX12_reckoned_14 rfl (lv_at hl 1 rfl) ?_
  refine lv_lload hx hb dX12_reckoned_15 (lv_at hl 4 rfl) ?_
  refine lv_iload hx hb dX12_reckoned_17 (lv_at hl 5 rfl) ?_
  refine lv_bipush (v := (7 : Int32)) hx hb dX12_reckoned_19 (by decide) ?_
  obtain ⟨q_4, hc_5, hF⟩ := bnd_some hF
  refine cV_l (As := [.long x2, .int x3, .int (7 : Int32)]) (rest := []) C X (c_X12_become l D hT aT yT n q_1.2 x2 x3 (7 : Int32) q_4 hc_5 _) (cwV 3 hts (good_V q8_136 q8_138 q0_73 q1_9 q8_139) rfl rfl rfl (by decide +kernel) ⟨Nat.le_of_ble_eq_true rfl, Nat.le_of_ble_eq_true rfl⟩) (va_recv X.1 X.2.1 (ci := 12) (q0 := 0) rfl rfl) X.1 X.2.1 X.2.2.1 (free_all X) hl.1 rfl rfl (Nat.le_of_ble_eq_true rfl) dX12_reckoned_21 ⟨Nat.le_of_ble_eq_true rfl, Nat.le_of_ble_eq_true rfl⟩ (fun t H1 locs1 ht hB hk hS => ?_)
  have X : Hx D (tX12 yT) A s H1 locs1 (wX12 hT aT yT q_4.2) := Hx_after_all X ht hB hS
  clear hk hS ht hB
  generalize H1 = H at X ⊢
  generalize locs1 = locs at X ⊢
  obtain ⟨h_6, hF⟩ := grd_some hF
  refine vn_l2d hx hb (by rw [hml]; exact hl.1.symm) hown (hts _ q9_118) (hts _ q9_120) (hts _ q9_119) (hts _ q1_24) (nsnB_ok h_6) (Nat.le_of_ble_eq_true rfl) (Nat.le_of_ble_eq_true rfl) dX12_reckoned_24 ?_
  refine lv_dstore (lv' := [(9, .double q_4.1.toUInt64), (7, .double q_1.1.toUInt64), (0, .ref hT), (1, .int x0), (2, .long x1), (4, .long x2), (6, .int x3)]) hx hb dX12_reckoned_27 hl (by decide) rfl (fun ls hl => ?_)
  refine lv_iload_n hx hb dX12_reckoned_29 rfl (lv_at hl 3 rfl) ?_
  refine lv_bipush (v := (43 : Int32)) hx hb dX12_reckoned_30 (by decide) ?_
  refine lv_icmp_ne (tgt := 43) hx hb dX12_reckoned_32 (by decide) (fun c => ?_) (fun c => ?_)
  · replace hF := iF c hF
    refine lv_iload_n hx hb dX12_reckoned_43 rfl (lv_at hl 3 rfl) ?_
    refine lv_bipush (v := (45 : Int32)) hx hb dX12_reckoned_44 (by decide) ?_
    refine lv_icmp_ne (tgt := 57) hx hb dX12_reckoned_46 (by decide) (fun c => ?_) (fun c => ?_)
    · replace hF := iF c hF
      refine lv_iload_n hx hb dX12_reckoned_57 rfl (lv_at hl 3 rfl) ?_
      refine lv_bipush (v := (42 : Int32)) hx hb dX12_reckoned_58 (by decide) ?_
      refine lv_icmp_ne (tgt := 71) hx hb dX12_reckoned_60 (by decide) (fun c => ?_) (fun c => ?_)
      · replace hF := iF c hF
        refine lv_dload hx hb dX12_reckoned_71 (lv_at hl 1 rfl) ?_
        refine lv_dload hx hb dX12_reckoned_73 (lv_at hl 0 rfl) ?_
        obtain ⟨h_7, hF⟩ := grd_some hF
        refine lv_ddiv hx hb dX12_reckoned_75 (n64_ok h_7) ?_
        exact (k_X12_reckoned_76 l D hT aT yT n) C X (lv_sub hl [2, 6] rfl) hF
      · replace hF := iT c hF
        refine lv_dload hx hb dX12_reckoned_63 (lv_at hl 1 rfl) ?_
        refine lv_dload hx hb dX12_reckoned_65 (lv_at hl 0 rfl) ?_
        obtain ⟨h_14, hF⟩ := grd_some hF
        refine lv_dmul hx hb dX12_reckoned_67 (n64_ok h_14) ?_
        refine lv_goto (tgt := 76) hx hb dX12_reckoned_68 (by decide) ?_
        exact (k_X12_reckoned_76 l D hT aT yT n) C X (lv_sub hl [2, 6] rfl) hF
    · replace hF := iT c hF
      refine lv_dload hx hb dX12_reckoned_49 (lv_at hl 1 rfl) ?_
      refine lv_dload hx hb dX12_reckoned_51 (lv_at hl 0 rfl) ?_
      obtain ⟨h_15, hF⟩ := grd_some hF
      refine lv_dsub hx hb dX12_reckoned_53 (n64_ok h_15) ?_
      refine lv_goto (tgt := 76) hx hb dX12_reckoned_54 (by decide) ?_
      exact (k_X12_reckoned_76 l D hT aT yT n) C X (lv_sub hl [2, 6] rfl) hF
  · replace hF := iT c hF
    refine lv_dload hx hb dX12_reckoned_35 (lv_at hl 1 rfl) ?_
    refine lv_dload hx hb dX12_reckoned_37 (lv_at hl 0 rfl) ?_
    obtain ⟨h_16, hF⟩ := grd_some hF
    refine lv_dadd hx hb dX12_reckoned_39 (n64_ok h_16) ?_
    refine lv_goto (tgt := 76) hx hb dX12_reckoned_40 (by decide) ?_
    exact (k_X12_reckoned_76 l D hT aT yT n) C X (lv_sub hl [2, 6] rfl) hF
