def kdX0 (k : Nat) : Nat := ([3, 3, 3, 3, 3, 3, 3, 3, 0, 0, 0, 3, 3, 3, 3, 3, 3, 3, 0] : List Nat).getD k 9
def ksX0 : List Nat := [0, 1, 2, 3, 4, 5, 6, 7, 11, 12, 13, 14, 15, 16, 17]
def akX0 (k : Nat) : Nat := ([0, 0, 0, 0, 0, 0, 1, 2, 9, 9, 9, 0, 0, 0, 0, 0, 0, 0, 9] : List Nat).getD k 9
def lnX0 (k : Nat) : Nat := ([840, 840, 840, 840, 840, 840, 840, 840, 0, 0, 0, 92, 92, 92, 92, 92, 92, 92, 0] : List Nat).getD k 0
def tkX0 (k : Nat) : FieldType := ([.int, .int, .int, .int, .int, .int, .long, .double, .int, .int, .int, .int, .int, .int, .int, .int, .int, .int, .int] : List FieldType).getD k .int
abbrev wX0 (h : Nat) (a : Nat → Nat) (y : Nat → ClassId) (g : Gs) : va_W := wG 0 19 kdX0 ksX0 akX0 lnX0 h a y g
abbrev tX0 (y : Nat → ClassId) : List (ClassId × FieldType) := tG ksX0 tkX0 y
theorem ndX0 : va_nd ksX0 = true := by decide
theorem wi_X0 : ∀ w ∈ u_ws RX0 TX0 19, w ∈ lw_all := wi_all (wi_eq rfl (wi_ch tc_2 [28, 30, 32, 34, 36, 38, 40, 42, 44, 46, 48, 50, 52, 54, 56, 58, 60, 62, 64]))
abbrev wTP (h : Nat) (_ : Nat → Nat) (y : Nat → ClassId) (g : Gs) : va_W := [(h, .inl (y 0, 3000, .inl (gIA g 0)))]
abbrev tTP (y : Nat → ClassId) : List (ClassId × FieldType) := [(y 0, .byte)]
def kdX4 (k : Nat) : Nat := ([3, 3, 3, 3, 0, 0, 0, 3, 3, 3, 3, 3, 3, 3] : List Nat).getD k 9
def ksX4 : List Nat := [1, 2, 3, 7, 8, 9, 10, 11, 12, 13]
def akX4 (k : Nat) : Nat := ([9, 0, 0, 0, 9, 9, 9, 0, 0, 0, 0, 0, 2, 0] : List Nat).getD k 9
def lnX4 (k : Nat) : Nat := ([0, 600, 60, 60, 0, 0, 0, 40, 40, 40, 52, 52, 192, 8] : List Nat).getD k 0
def tkX4 (k : Nat) : FieldType := ([.int, .byte, .int, .int, .int, .int, .int, .int, .boolean, .int, .int, .int, .double, .int] : List FieldType).getD k .int
abbrev wX4 (h : Nat) (a : Nat → Nat) (y : Nat → ClassId) (g : Gs) : va_W := wG 4 14 kdX4 ksX4 akX4 lnX4 h a y g
abbrev tX4 (y : Nat → ClassId) : List (ClassId × FieldType) := tG ksX4 tkX4 y
theorem ndX4 : va_nd ksX4 = true := by decide
theorem wi_X4 : ∀ w ∈ u_ws RX4 TX4 14, w ∈ lw_all := wi_all (wi_eq rfl (wi_ch tc_2 [117, 119, 121, 123, 125, 127, 129, 131, 133, 135, 137, 139, 141, 143]))
def kdX2 (k : Nat) : Nat := ([3, 0] : List Nat).getD k 9
def ksX2 : List Nat := []
def akX2 (k : Nat) : Nat := ([9, 9] : List Nat).getD k 9
def lnX2 (k : Nat) : Nat := ([0, 0] : List Nat).getD k 0
def tkX2 (k : Nat) : FieldType := ([.int, .int] : List FieldType).getD k .int
abbrev wX2 (h : Nat) (a : Nat → Nat) (y : Nat → ClassId) (g : Gs) : va_W := wG 2 2 kdX2 ksX2 akX2 lnX2 h a y g
abbrev tX2 (y : Nat → ClassId) : List (ClassId × FieldType) := tG ksX2 tkX2 y
theorem ndX2 : va_nd ksX2 = true := by decide
theorem wi_X2 : ∀ w ∈ u_ws RX2 TX2 2, w ∈ lw_all := wi_all (wi_eq rfl (wi_ch tc_3 [46, 48]))
theorem q1_237 : Cond.fieldLink RX0 38 "TurningHall$Code" "size" "I" ∈ lw_all := lw_in (tc_1 (List.mem_of_getElem? (i := 237) rfl)) rfl
theorem q1_239 : Cond.fieldLink RX0 42 "TurningHall$Code" "nodes" "I" ∈ lw_all := lw_in (tc_1 (List.mem_of_getElem? (i := 239) rfl)) rfl
theorem q2_24 : Cond.fieldLink RX0 70 "TurningHall$Code" "formulas" "I" ∈ lw_all := lw_in (tc_2 (List.mem_of_getElem? (i := 24) rfl)) rfl
theorem q2_2 : Cond.fieldLink RX0 45 "TurningHall$Code" "closed" "Z" ∈ lw_all := lw_in (tc_2 (List.mem_of_getElem? (i := 2) rfl)) rfl
theorem q2_4 : Cond.fieldLink RX0 49 "TurningHall$Code" "from" "[I" ∈ lw_all := lw_in (tc_2 (List.mem_of_getElem? (i := 4) rfl)) rfl
theorem q2_6 : Cond.fieldLink RX0 52 "TurningHall$Code" "to" "[I" ∈ lw_all := lw_in (tc_2 (List.mem_of_getElem? (i := 6) rfl)) rfl
theorem q4_213 : Cond.methodLink RX0 73 Lib.Math.min.name ∈ lw_all := lw_in (tc_4 (List.mem_of_getElem? (i := 213) rfl)) rfl
theorem q1_207 : Cond.fieldLink RX0 9 "TurningHall$Code" "op" "[I" ∈ lw_all := lw_in (tc_1 (List.mem_of_getElem? (i := 207) rfl)) rfl
theorem q1_211 : Cond.fieldLink RX0 15 "TurningHall$Code" "place" "[I" ∈ lw_all := lw_in (tc_1 (List.mem_of_getElem? (i := 211) rfl)) rfl
theorem q1_214 : Cond.fieldLink RX0 18 "TurningHall$Code" "sort" "[I" ∈ lw_all := lw_in (tc_1 (List.mem_of_getElem? (i := 214) rfl)) rfl
theorem q1_218 : Cond.fieldLink RX0 21 "TurningHall$Code" "left" "[I" ∈ lw_all := lw_in (tc_1 (List.mem_of_getElem? (i := 218) rfl)) rfl
theorem q1_223 : Cond.fieldLink RX0 24 "TurningHall$Code" "right" "[I" ∈ lw_all := lw_in (tc_1 (List.mem_of_getElem? (i := 223) rfl)) rfl
theorem q1_226 : Cond.fieldLink RX0 27 "TurningHall$Code" "arg" "[I" ∈ lw_all := lw_in (tc_1 (List.mem_of_getElem? (i := 226) rfl)) rfl
theorem q1_231 : Cond.fieldLink RX0 30 "TurningHall$Code" "whole" "[J" ∈ lw_all := lw_in (tc_1 (List.mem_of_getElem? (i := 231) rfl)) rfl
theorem q1_234 : Cond.fieldLink RX0 34 "TurningHall$Code" "real" "[D" ∈ lw_all := lw_in (tc_1 (List.mem_of_getElem? (i := 234) rfl)) rfl
theorem q2_67 : Cond.fieldLink RX4 12 "TurningHall$Plan" "code" "LTurningHall$Code;" ∈ lw_all := lw_in (tc_2 (List.mem_of_getElem? (i := 67) rfl)) rfl
theorem q3_115 : Cond.methodLink RX4 62 yX0_clear ∈ lw_all := lw_in (tc_3 (List.mem_of_getElem? (i := 115) rfl)) rfl
theorem q3_116 : Cond.instanceMethod yX0_clear ∈ lw_all := lw_in (tc_3 (List.mem_of_getElem? (i := 116) rfl)) rfl
theorem q3_117 : Cond.selects RX0 yX0_clear yX0_clear ∈ lw_all := lw_in (tc_3 (List.mem_of_getElem? (i := 117) rfl)) rfl
theorem q1_8 : Cond.initialized RX0 ∈ lw_all := lw_in (tc_1 (List.mem_of_getElem? (i := 8) rfl)) rfl
theorem q3_118 : Cond.code yX0_clear cX0_clear 1 none ∈ lw_all := lw_in (tc_3 (List.mem_of_getElem? (i := 118) rfl)) rfl
theorem q2_79 : Cond.fieldLink RX4 29 "TurningHall$Plan" "things" "I" ∈ lw_all := lw_in (tc_2 (List.mem_of_getElem? (i := 79) rfl)) rfl
theorem q2_84 : Cond.fieldLink RX4 33 "TurningHall$Plan" "bells" "I" ∈ lw_all := lw_in (tc_2 (List.mem_of_getElem? (i := 84) rfl)) rfl
theorem q2_89 : Cond.fieldLink RX4 36 "TurningHall$Plan" "cams" "I" ∈ lw_all := lw_in (tc_2 (List.mem_of_getElem? (i := 89) rfl)) rfl
theorem q4_74 : Cond.methodLink RX4 65 Lib.Math.min.name ∈ lw_all := lw_in (tc_4 (List.mem_of_getElem? (i := 74) rfl)) rfl
theorem q2_72 : Cond.fieldLink RX4 18 "TurningHall$Plan" "names" "[B" ∈ lw_all := lw_in (tc_2 (List.mem_of_getElem? (i := 72) rfl)) rfl
theorem q4_75 : Cond.methodLink RX4 71 arraycopyName ∈ lw_all := lw_in (tc_4 (List.mem_of_getElem? (i := 75) rfl)) rfl
theorem q2_74 : Cond.fieldLink RX4 22 "TurningHall$Plan" "nameSize" "[I" ∈ lw_all := lw_in (tc_2 (List.mem_of_getElem? (i := 74) rfl)) rfl
theorem q2_77 : Cond.fieldLink RX4 26 "TurningHall$Plan" "namePlace" "[I" ∈ lw_all := lw_in (tc_2 (List.mem_of_getElem? (i := 77) rfl)) rfl
theorem q2_94 : Cond.fieldLink RX4 39 "TurningHall$Plan" "sorts" "[I" ∈ lw_all := lw_in (tc_2 (List.mem_of_getElem? (i := 94) rfl)) rfl
theorem q4_192 : Cond.methodLink RX4 77 yX4_isNamed ∈ lw_all := lw_in (tc_4 (List.mem_of_getElem? (i := 192) rfl)) rfl
theorem q4_194 : Cond.instanceMethod yX4_isNamed ∈ lw_all := lw_in (tc_4 (List.mem_of_getElem? (i := 194) rfl)) rfl
theorem q0_38 : Cond.selects RX4 yX4_isNamed yX4_isNamed ∈ lw_all := lw_in (tc_0 (List.mem_of_getElem? (i := 38) rfl)) rfl
theorem q1_7 : Cond.initialized RX4 ∈ lw_all := lw_in (tc_1 (List.mem_of_getElem? (i := 7) rfl)) rfl
theorem q4_195 : Cond.code yX4_isNamed cX4_isNamed 6 (some .boolean) ∈ lw_all := lw_in (tc_4 (List.mem_of_getElem? (i := 195) rfl)) rfl
theorem q3_45 : Cond.fieldLink RX2 9 "TurningHall$Namer" "first" "I" ∈ lw_all := lw_in (tc_3 (List.mem_of_getElem? (i := 45) rfl)) rfl
theorem q2_78 : Cond.fieldLinkNest RX2 46 "TurningHall$Plan" "namePlace" "[I" "TurningHall" ∈ lw_tbl := tc_2 (List.mem_of_getElem? (i := 78) rfl)
theorem q3_44 : Cond.fieldLink RX2 15 "TurningHall$Namer" "text" "[B" ∈ lw_all := lw_in (tc_3 (List.mem_of_getElem? (i := 44) rfl)) rfl
theorem q2_75 : Cond.fieldLinkNest RX2 54 "TurningHall$Plan" "nameSize" "[I" "TurningHall" ∈ lw_tbl := tc_2 (List.mem_of_getElem? (i := 75) rfl)
theorem q4_188 : Cond.methodLink RX2 57 yX4_find ∈ lw_all := lw_in (tc_4 (List.mem_of_getElem? (i := 188) rfl)) rfl
theorem q4_189 : Cond.instanceMethod yX4_find ∈ lw_all := lw_in (tc_4 (List.mem_of_getElem? (i := 189) rfl)) rfl
theorem q4_190 : Cond.selects RX4 yX4_find yX4_find ∈ lw_all := lw_in (tc_4 (List.mem_of_getElem? (i := 190) rfl)) rfl
theorem q4_191 : Cond.code yX4_find cX4_find 7 (some .int) ∈ lw_all := lw_in (tc_4 (List.mem_of_getElem? (i := 191) rfl)) rfl
theorem q2_81 : Cond.fieldLinkNest RX2 19 "TurningHall$Plan" "things" "I" "TurningHall" ∈ lw_tbl := tc_2 (List.mem_of_getElem? (i := 81) rfl)
theorem q4_184 : Cond.methodLink RX2 42 yX2_isToldAhead ∈ lw_all := lw_in (tc_4 (List.mem_of_getElem? (i := 184) rfl)) rfl
theorem q4_186 : Cond.instanceMethod yX2_isToldAhead ∈ lw_all := lw_in (tc_4 (List.mem_of_getElem? (i := 186) rfl)) rfl
theorem q0_37 : Cond.selects RX2 yX2_isToldAhead yX2_isToldAhead ∈ lw_all := lw_in (tc_0 (List.mem_of_getElem? (i := 37) rfl)) rfl
theorem q1_13 : Cond.initialized RX2 ∈ lw_all := lw_in (tc_1 (List.mem_of_getElem? (i := 13) rfl)) rfl
theorem q4_187 : Cond.code yX2_isToldAhead cX2_isToldAhead 7 (some .boolean) ∈ lw_all := lw_in (tc_4 (List.mem_of_getElem? (i := 187) rfl)) rfl
theorem q4_196 : Cond.methodLink RX2 50 yX2_refuse ∈ lw_all := lw_in (tc_4 (List.mem_of_getElem? (i := 196) rfl)) rfl
theorem q4_198 : Cond.instanceMethod yX2_refuse ∈ lw_all := lw_in (tc_4 (List.mem_of_getElem? (i := 198) rfl)) rfl
theorem q0_39 : Cond.selects RX2 yX2_refuse yX2_refuse ∈ lw_all := lw_in (tc_0 (List.mem_of_getElem? (i := 39) rfl)) rfl
theorem q4_199 : Cond.code yX2_refuse cX2_refuse 2 none ∈ lw_all := lw_in (tc_4 (List.mem_of_getElem? (i := 199) rfl)) rfl
theorem q2_85 : Cond.fieldLinkNest RX2 28 "TurningHall$Plan" "bells" "I" "TurningHall" ∈ lw_tbl := tc_2 (List.mem_of_getElem? (i := 85) rfl)
theorem q2_90 : Cond.fieldLinkNest RX2 31 "TurningHall$Plan" "cams" "I" "TurningHall" ∈ lw_tbl := tc_2 (List.mem_of_getElem? (i := 90) rfl)
theorem q2_26 : Cond.fieldLinkNest RX2 61 "TurningHall$Code" "formulas" "I" "TurningHall" ∈ lw_tbl := tc_2 (List.mem_of_getElem? (i := 26) rfl)
theorem q2_15 : Cond.fieldLinkNest RX2 66 "TurningHall$Code" "thingsAhead" "[I" "TurningHall" ∈ lw_tbl := tc_2 (List.mem_of_getElem? (i := 15) rfl)
theorem q4_204 : Cond.methodLink RX2 69 Lib.Math.min.name ∈ lw_all := lw_in (tc_4 (List.mem_of_getElem? (i := 204) rfl)) rfl
theorem q2_18 : Cond.fieldLinkNest RX2 75 "TurningHall$Code" "camsAhead" "[I" "TurningHall" ∈ lw_tbl := tc_2 (List.mem_of_getElem? (i := 18) rfl)
theorem q4_205 : Cond.methodLink RX2 78 yX0_beginOf ∈ lw_all := lw_in (tc_4 (List.mem_of_getElem? (i := 205) rfl)) rfl
theorem q4_206 : Cond.instanceMethod yX0_beginOf ∈ lw_all := lw_in (tc_4 (List.mem_of_getElem? (i := 206) rfl)) rfl
theorem q4_207 : Cond.selects RX0 yX0_beginOf yX0_beginOf ∈ lw_all := lw_in (tc_4 (List.mem_of_getElem? (i := 207) rfl)) rfl
theorem q4_208 : Cond.code yX0_beginOf cX0_beginOf 2 (some .int) ∈ lw_all := lw_in (tc_4 (List.mem_of_getElem? (i := 208) rfl)) rfl
theorem q4_209 : Cond.methodLink RX2 82 yX0_endOf ∈ lw_all := lw_in (tc_4 (List.mem_of_getElem? (i := 209) rfl)) rfl
theorem q4_210 : Cond.instanceMethod yX0_endOf ∈ lw_all := lw_in (tc_4 (List.mem_of_getElem? (i := 210) rfl)) rfl
theorem q4_211 : Cond.selects RX0 yX0_endOf yX0_endOf ∈ lw_all := lw_in (tc_4 (List.mem_of_getElem? (i := 211) rfl)) rfl
theorem q4_212 : Cond.code yX0_endOf cX0_endOf 2 (some .int) ∈ lw_all := lw_in (tc_4 (List.mem_of_getElem? (i := 212) rfl)) rfl
theorem q1_210 : Cond.fieldLinkNest RX2 85 "TurningHall$Code" "op" "[I" "TurningHall" ∈ lw_tbl := tc_1 (List.mem_of_getElem? (i := 210) rfl)
theorem q1_229 : Cond.fieldLinkNest RX2 88 "TurningHall$Code" "arg" "[I" "TurningHall" ∈ lw_tbl := tc_1 (List.mem_of_getElem? (i := 229) rfl)
theorem q1_221 : Cond.fieldLinkNest RX2 91 "TurningHall$Code" "left" "[I" "TurningHall" ∈ lw_tbl := tc_1 (List.mem_of_getElem? (i := 221) rfl)
theorem q4_180 : Cond.methodLink RX2 24 yX2_compareAll ∈ lw_all := lw_in (tc_4 (List.mem_of_getElem? (i := 180) rfl)) rfl
theorem q4_182 : Cond.instanceMethod yX2_compareAll ∈ lw_all := lw_in (tc_4 (List.mem_of_getElem? (i := 182) rfl)) rfl
theorem q0_36 : Cond.selects RX2 yX2_compareAll yX2_compareAll ∈ lw_all := lw_in (tc_0 (List.mem_of_getElem? (i := 36) rfl)) rfl
theorem q4_183 : Cond.code yX2_compareAll cX2_compareAll 5 none ∈ lw_all := lw_in (tc_4 (List.mem_of_getElem? (i := 183) rfl)) rfl
theorem q2_70 : Cond.fieldLinkNest RX2 34 "TurningHall$Plan" "code" "LTurningHall$Code;" "TurningHall" ∈ lw_tbl := tc_2 (List.mem_of_getElem? (i := 70) rfl)
theorem q4_200 : Cond.methodLink RX2 38 yX2_resolve ∈ lw_all := lw_in (tc_4 (List.mem_of_getElem? (i := 200) rfl)) rfl
theorem q4_202 : Cond.instanceMethod yX2_resolve ∈ lw_all := lw_in (tc_4 (List.mem_of_getElem? (i := 202) rfl)) rfl
theorem q0_40 : Cond.selects RX2 yX2_resolve yX2_resolve ∈ lw_all := lw_in (tc_0 (List.mem_of_getElem? (i := 40) rfl)) rfl
theorem q4_203 : Cond.code yX2_resolve cX2_resolve 10 none ∈ lw_all := lw_in (tc_4 (List.mem_of_getElem? (i := 203) rfl)) rfl
/-! ### X0_clear -/
theorem dX0_clear_0 : decode cX0_clear 0 = .ok (.aload_n 0, 1) := by decide +kernel
theorem dX0_clear_1 : decode cX0_clear 1 = .ok (.iconst 0, 1) := by decide +kernel
theorem dX0_clear_2 : decode cX0_clear 2 = .ok (.putfield 38, 3) := by decide +kernel
theorem dX0_clear_5 : decode cX0_clear 5 = .ok (.aload_n 0, 1) := by decide +kernel
theorem dX0_clear_6 : decode cX0_clear 6 = .ok (.iconst 0, 1) := by decide +kernel
theorem dX0_clear_7 : decode cX0_clear 7 = .ok (.putfield 42, 3) := by decide +kernel
theorem dX0_clear_10 : decode cX0_clear 10 = .ok (.aload_n 0, 1) := by decide +kernel
theorem dX0_clear_11 : decode cX0_clear 11 = .ok (.iconst 0, 1) := by decide +kernel
theorem dX0_clear_12 : decode cX0_clear 12 = .ok (.putfield 70, 3) := by decide +kernel
theorem dX0_clear_15 : decode cX0_clear 15 = .ok (.aload_n 0, 1) := by decide +kernel
theorem dX0_clear_16 : decode cX0_clear 16 = .ok (.iconst 0, 1) := by decide +kernel
theorem dX0_clear_17 : decode cX0_clear 17 = .ok (.putfield 45, 3) := by decide +kernel
theorem dX0_clear_20 : decode cX0_clear 20 = .ok (.return_, 1) := by decide +kernel
abbrev R_X0_clear : Room := ({ frames := 0, cells := 0, slots := 0, locals := 0 } : Room)
def f_X0_clear (gT : Gs) : Option (Gs) :=
  some (sI (sI (sI (sI gT 8 (0 : Int32)) 9 (0 : Int32)) 18 (0 : Int32)) 10 (0 : Int32))
set_option maxHeartbeats 4000000 in
set_option maxRecDepth 100000 in
theorem c_X0_clear (l : Launch) (D : Dx) (hT : Nat) (aT : Nat → Nat) (yT : Nat → ClassId) (gT : Gs) (q : Gs) (hF : f_X0_clear gT = some q) (sz : Nat) : Met l yX0_clear (ws_ yX0_clear cX0_clear 1 none) R_X0_clear (PC D (tX0 yT) [.ref hT] (wX0 hT aT yT gT) sz) (QV D (va_A (wX0 hT aT yT gT) sz) (wX0 hT aT yT q)) 0 0 (va_A (wX0 hT aT yT gT) sz) := by
  refine Met.ofW (cc := cX0_clear) (maxL := 1) (ret := none) (by decide) rfl ?_
  intro p e s m args below meth c s₁ B hml hv
  obtain ⟨rfl, hsz, hP, hK, hD, hN⟩ := hv
  subst hsz
  have C : Cx p s m _ meth c cX0_clear none 1 RX0 lw_all := Cx_of B hml
  have X := Hx_start hP hK hD hN
  obtain ⟨hx, hb, hr, -, hown, hts, hlk⟩ := id C
  generalize va_A (wX0 hT aT yT gT) s.heap.size = A at X ⊢
  have hl := lv_entry ([.ref hT]) (n := 1) (Nat.le_of_ble_eq_true rfl)
  rw [lg_entry_eq]
  generalize (lg_sl ([.ref hT]) ++ List.replicate (1 - (lg_sl ([.ref hT])).length) Slot.unset).toArray = ls at hl ⊢
  have hl : lv_has ls 1 [(0, .ref hT)] := hl
  unfold f_X0_clear at hF
  refine lv_aload_n hx hb dX0_clear_0 rfl (lv_at hl 0 rfl) ?_
  refine lv_iconst (v := (0 : Int32)) hx hb dX0_clear_1 (by decide) ?_
  refine va_put (D := D.1) (ci := 0) (v := .int (0 : Int32)) (ty := .int) (C := RX0) (T := TX0) (N := 19) hx hb hts wi_X0 tyX0 tyX0_ok nmX0 hown X.1 X.2.1 X.2.2.1 X.2.2.2.1 0 rfl rfl 8 (by decide) (hts _ q1_237) (fun _ h9 => h9) rfl (by decide +kernel) rfl rfl (by rw [List.length_map, List.length_range]; decide) dX0_clear_2 (fun H locs hP hD hS => ?_)
  have X : Hx D (tX0 yT) A s H locs (wX0 hT aT yT (sI gT 8 (0 : Int32))) := Hx_set X (wG_sI (k := 8) rfl) hP hD hS
  refine lv_aload_n hx hb dX0_clear_5 rfl (lv_at hl 0 rfl) ?_
  refine lv_iconst (v := (0 : Int32)) hx hb dX0_clear_6 (by decide) ?_
  refine va_put (D := D.1) (ci := 0) (v := .int (0 : Int32)) (ty := .int) (C := RX0) (T := TX0) (N := 19) hx hb hts wi_X0 tyX0 tyX0_ok nmX0 hown X.1 X.2.1 X.2.2.1 X.2.2.2.1 0 rfl rfl 9 (by decide) (hts _ q1_239) (fun _ h9 => h9) rfl (by decide +kernel) rfl rfl (by rw [List.length_map, List.length_range]; decide) dX0_clear_7 (fun H locs hP hD hS => ?_)
  have X : Hx D (tX0 yT) A s H locs (wX0 hT aT yT (sI (sI gT 8 (0 : Int32)) 9 (0 : Int32))) := Hx_set X (wG_sI (k := 9) rfl) hP hD hS
  refine lv_aload_n hx hb dX0_clear_10 rfl (lv_at hl 0 rfl) ?_
  refine lv_iconst (v := (0 : Int32)) hx hb dX0_clear_11 (by decide) ?_
  refine va_put (D := D.1) (ci := 0) (v := .int (0 : Int32)) (ty := .int) (C := RX0) (T := TX0) (N := 19) hx hb hts wi_X0 tyX0 tyX0_ok nmX0 hown X.1 X.2.1 X.2.2.1 X.2.2.2.1 0 rfl rfl 18 (by decide) (hts _ q2_24) (fun _ h9 => h9) rfl (by decide +kernel) rfl rfl (by rw [List.length_map, List.length_range]; decide) dX0_clear_12 (fun H locs hP hD hS => ?_)
  have X : Hx D (tX0 yT) A s H locs (wX0 hT aT yT (sI (sI (sI gT 8 (0 : Int32)) 9 (0 : Int32)) 18 (0 : Int32))) := Hx_set X (wG_sI (k := 18) rfl) hP hD hS
  refine lv_aload_n hx hb dX0_clear_15 rfl (lv_at hl 0 rfl) ?_
  refine lv_iconst (v := (0 : Int32)) hx hb dX0_clear_16 (by decide) ?_
  refine va_put (D := D.1) (ci := 0) (v := .int (0 : Int32)) (ty := .boolean) (C := RX0) (T := TX0) (N := 19) hx hb hts wi_X0 tyX0 tyX0_ok nmX0 hown X.1 X.2.1 X.2.2.1 X.2.2.2.1 0 rfl rfl 10 (by decide) (hts _ q2_2) (fun _ h9 => h9) rfl (by decide +kernel) rfl rfl (by rw [List.length_map, List.length_range]; decide) dX0_clear_17 (fun H locs hP hD hS => ?_)
  have X : Hx D (tX0 yT) A s H locs (wX0 hT aT yT (sI (sI (sI (sI gT 8 (0 : Int32)) 9 (0 : Int32)) 18 (0 : Int32)) 10 (0 : Int32))) := Hx_set X (wG_sI (k := 10) rfl) hP hD hS
  have hq := Option.some.inj hF
  subst hq
  exact rt_v C X dX0_clear_20

/-! ### X0_beginOf -/
theorem dX0_beginOf_0 : decode cX0_beginOf 0 = .ok (.iload_n 1, 1) := by decide +kernel
theorem dX0_beginOf_1 : decode cX0_beginOf 1 = .ok (.ifCond .lt 20, 3) := by decide +kernel
theorem dX0_beginOf_4 : decode cX0_beginOf 4 = .ok (.iload_n 1, 1) := by decide +kernel
theorem dX0_beginOf_5 : decode cX0_beginOf 5 = .ok (.aload_n 0, 1) := by decide +kernel
theorem dX0_beginOf_6 : decode cX0_beginOf 6 = .ok (.getfield 70, 3) := by decide +kernel
theorem dX0_beginOf_9 : decode cX0_beginOf 9 = .ok (.if_icmp .ge 12, 3) := by decide +kernel
theorem dX0_beginOf_12 : decode cX0_beginOf 12 = .ok (.aload_n 0, 1) := by decide +kernel
theorem dX0_beginOf_13 : decode cX0_beginOf 13 = .ok (.getfield 49, 3) := by decide +kernel
theorem dX0_beginOf_16 : decode cX0_beginOf 16 = .ok (.iload_n 1, 1) := by decide +kernel
theorem dX0_beginOf_17 : decode cX0_beginOf 17 = .ok (.iaload, 1) := by decide +kernel
theorem dX0_beginOf_18 : decode cX0_beginOf 18 = .ok (.goto 4, 3) := by decide +kernel
theorem dX0_beginOf_21 : decode cX0_beginOf 21 = .ok (.iconst 0, 1) := by decide +kernel
theorem dX0_beginOf_22 : decode cX0_beginOf 22 = .ok (.ireturn, 1) := by decide +kernel
abbrev R_X0_beginOf : Room := ({ frames := 0, cells := 0, slots := 0, locals := 0 } : Room)
def f_X0_beginOf (gT : Gs) (x0 : Int32) : Option (Int32) :=
  if x0 < 0 then (some (0 : Int32)) else (if (gI gT 18) ≤ x0 then (some (0 : Int32)) else (grd (inB x0 92) (some (gIA gT 11 x0.toNatClampNeg))))
set_option maxHeartbeats 4000000 in
set_option maxRecDepth 100000 in
theorem c_X0_beginOf (l : Launch) (D : Dx) (hT : Nat) (aT : Nat → Nat) (yT : Nat → ClassId) (gT : Gs) (x0 : Int32) (q : Int32) (hF : f_X0_beginOf gT x0 = some q) (sz : Nat) : Met l yX0_beginOf (ws_ yX0_beginOf cX0_beginOf 2 (some .int)) R_X0_beginOf (PC D (tX0 yT) [.ref hT, .int x0] (wX0 hT aT yT gT) sz) (QI D (va_A (wX0 hT aT yT gT) sz) (wX0 hT aT yT gT) q) 0 0 (va_A (wX0 hT aT yT gT) sz) := by
  refine Met.ofW (cc := cX0_beginOf) (maxL := 2) (ret := (some .int)) (by decide) rfl ?_
  intro p e s m args below meth c s₁ B hml hv
  obtain ⟨rfl, hsz, hP, hK, hD, hN⟩ := hv
  subst hsz
  have C : Cx p s m _ meth c cX0_beginOf (some .int) 2 RX0 lw_all := Cx_of B hml
  have X := Hx_start hP hK hD hN
  obtain ⟨hx, hb, hr, -, hown, hts, hlk⟩ := id C
  generalize va_A (wX0 hT aT yT gT) s.heap.size = A at X ⊢
  have hl := lv_entry ([.ref hT, .int x0]) (n := 2) (Nat.le_of_ble_eq_true rfl)
  rw [lg_entry_eq]
  generalize (lg_sl ([.ref hT, .int x0]) ++ List.replicate (2 - (lg_sl ([.ref hT, .int x0])).length) Slot.unset).toArray = ls at hl ⊢
  have hl : lv_has ls 2 [(0, .ref hT), (1, .int x0)] := hl
  unfold f_X0_beginOf at hF
  refine lv_iload_n hx hb dX0_beginOf_0 rfl (lv_at hl 1 rfl) ?_
  refine lv_if_lt (tgt := 21) hx hb dX0_beginOf_1 (by decide) (fun c => ?_) (fun c => ?_)
  · replace hF := iT c hF
    refine lv_iconst (v := (0 : Int32)) hx hb dX0_beginOf_21 (by decide) ?_
    have hq := Option.some.inj hF
    subst hq
    exact rt_i C X dX0_beginOf_22
  · replace hF := iF c hF
    refine lv_iload_n hx hb dX0_beginOf_4 rfl (lv_at hl 1 rfl) ?_
    refine lv_aload_n hx hb dX0_beginOf_5 rfl (lv_at hl 0 rfl) ?_
    refine va_get (D := D.1) (ci := 0) (v := .int (gI gT 18)) (C := RX0) (T := TX0) (N := 19) hx hb hts wi_X0 hown X.1 X.2.1 0 rfl rfl 18 (by decide) (hts _ q2_24) (fun _ h9 => h9) (fl_get (by decide)) dX0_beginOf_6 ?_
    refine lv_icmp_ge (tgt := 21) hx hb dX0_beginOf_9 (by decide) (fun c => ?_) (fun c => ?_)
    · replace hF := iT c hF
      refine lv_iconst (v := (0 : Int32)) hx hb dX0_beginOf_21 (by decide) ?_
      have hq := Option.some.inj hF
      subst hq
      exact rt_i C X dX0_beginOf_22
    · replace hF := iF c hF
      refine lv_aload_n hx hb dX0_beginOf_12 rfl (lv_at hl 0 rfl) ?_
      refine va_get (D := D.1) (ci := 0) (v := .ref (aT 11)) (C := RX0) (T := TX0) (N := 19) hx hb hts wi_X0 hown X.1 X.2.1 0 rfl rfl 11 (by decide) (hts _ q2_4) (fun _ h9 => h9) (fl_get (by decide)) dX0_beginOf_13 ?_
      refine lv_iload_n hx hb dX0_beginOf_16 rfl (lv_at hl 1 rfl) ?_
      obtain ⟨h_1, hF⟩ := grd_some hF
      refine va_iald (D := D.1) (f := gIA gT 11) hx hb X.1 X.2.1 9 8 rfl rfl (inB_ok h_1) dX0_beginOf_17 ?_
      refine lv_goto (tgt := 22) hx hb dX0_beginOf_18 (by decide) ?_
      have hq := Option.some.inj hF
      subst hq
      exact rt_i C X dX0_beginOf_22

/-! ### X0_endOf -/
theorem dX0_endOf_0 : decode cX0_endOf 0 = .ok (.iload_n 1, 1) := by decide +kernel
theorem dX0_endOf_1 : decode cX0_endOf 1 = .ok (.ifCond .lt 27, 3) := by decide +kernel
theorem dX0_endOf_4 : decode cX0_endOf 4 = .ok (.iload_n 1, 1) := by decide +kernel
theorem dX0_endOf_5 : decode cX0_endOf 5 = .ok (.aload_n 0, 1) := by decide +kernel
theorem dX0_endOf_6 : decode cX0_endOf 6 = .ok (.getfield 70, 3) := by decide +kernel
theorem dX0_endOf_9 : decode cX0_endOf 9 = .ok (.if_icmp .ge 19, 3) := by decide +kernel
theorem dX0_endOf_12 : decode cX0_endOf 12 = .ok (.aload_n 0, 1) := by decide +kernel
theorem dX0_endOf_13 : decode cX0_endOf 13 = .ok (.getfield 52, 3) := by decide +kernel
theorem dX0_endOf_16 : decode cX0_endOf 16 = .ok (.iload_n 1, 1) := by decide +kernel
theorem dX0_endOf_17 : decode cX0_endOf 17 = .ok (.iaload, 1) := by decide +kernel
theorem dX0_endOf_18 : decode cX0_endOf 18 = .ok (.aload_n 0, 1) := by decide +kernel
theorem dX0_endOf_19 : decode cX0_endOf 19 = .ok (.getfield 38, 3) := by decide +kernel
theorem dX0_endOf_22 : decode cX0_endOf 22 = .ok (.invokestatic 73, 3) := by decide +kernel
theorem dX0_endOf_25 : decode cX0_endOf 25 = .ok (.goto 4, 3) := by decide +kernel
theorem dX0_endOf_28 : decode cX0_endOf 28 = .ok (.iconst 0, 1) := by decide +kernel
theorem dX0_endOf_29 : decode cX0_endOf 29 = .ok (.ireturn, 1) := by decide +kernel
abbrev R_X0_endOf : Room := ({ frames := 1, cells := 0, slots := 0, locals := 64 } : Room)
def f_X0_endOf (gT : Gs) (x0 : Int32) : Option (Int32) :=
  if x0 < 0 then (some (0 : Int32)) else (if (gI gT 18) ≤ x0 then (some (0 : Int32)) else (grd (inB x0 92) (some (if (gI gT 8) < (gIA gT 12 x0.toNatClampNeg) then (gI gT 8) else (gIA gT 12 x0.toNatClampNeg)))))
set_option maxHeartbeats 4000000 in
set_option maxRecDepth 100000 in
theorem c_X0_endOf (l : Launch) (D : Dx) (hT : Nat) (aT : Nat → Nat) (yT : Nat → ClassId) (gT : Gs) (x0 : Int32) (q : Int32) (hF : f_X0_endOf gT x0 = some q) (sz : Nat) : Met l yX0_endOf (ws_ yX0_endOf cX0_endOf 2 (some .int)) R_X0_endOf (PC D (tX0 yT) [.ref hT, .int x0] (wX0 hT aT yT gT) sz) (QI D (va_A (wX0 hT aT yT gT) sz) (wX0 hT aT yT gT) q) 0 0 (va_A (wX0 hT aT yT gT) sz) := by
  refine Met.ofW (cc := cX0_endOf) (maxL := 2) (ret := (some .int)) (by decide) rfl ?_
  intro p e s m args below meth c s₁ B hml hv
  obtain ⟨rfl, hsz, hP, hK, hD, hN⟩ := hv
  subst hsz
  have C : Cx p s m _ meth c cX0_endOf (some .int) 2 RX0 lw_all := Cx_of B hml
  have X := Hx_start hP hK hD hN
  obtain ⟨hx, hb, hr, -, hown, hts, hlk⟩ := id C
  generalize va_A (wX0 hT aT yT gT) s.heap.size = A at X ⊢
  have hl := lv_entry ([.ref hT, .int x0]) (n := 2) (Nat.le_of_ble_eq_true rfl)
  rw [lg_entry_eq]
  generalize (lg_sl ([.ref hT, .int x0]) ++ List.replicate (2 - (lg_sl ([.ref hT, .int x0])).length) Slot.unset).toArray = ls at hl ⊢
  have hl : lv_has ls 2 [(0, .ref hT), (1, .int x0)] := hl
  unfold f_X0_endOf at hF
  refine lv_iload_n hx hb dX0_endOf_0 rfl (lv_at hl 1 rfl) ?_
  refine lv_if_lt (tgt := 28) hx hb dX0_endOf_1 (by decide) (fun c => ?_) (fun c => ?_)
  · replace hF := iT c hF
    refine lv_iconst (v := (0 : Int32)) hx hb dX0_endOf_28 (by decide) ?_
    have hq := Option.some.inj hF
    subst hq
    exact rt_i C X dX0_endOf_29
  · replace hF := iF c hF
    refine lv_iload_n hx hb dX0_endOf_4 rfl (lv_at hl 1 rfl) ?_
    refine lv_aload_n hx hb dX0_endOf_5 rfl (lv_at hl 0 rfl) ?_
    refine va_get (D := D.1) (ci := 0) (v := .int (gI gT 18)) (C := RX0) (T := TX0) (N := 19) hx hb hts wi_X0 hown X.1 X.2.1 0 rfl rfl 18 (by decide) (hts _ q2_24) (fun _ h9 => h9) (fl_get (by decide)) dX0_endOf_6 ?_
    refine lv_icmp_ge (tgt := 28) hx hb dX0_endOf_9 (by decide) (fun c => ?_) (fun c => ?_)
    · replace hF := iT c hF
      refine lv_iconst (v := (0 : Int32)) hx hb dX0_endOf_28 (by decide) ?_
      have hq := Option.some.inj hF
      subst hq
      exact rt_i C X dX0_endOf_29
    · replace hF := iF c hF
      refine lv_aload_n hx hb dX0_endOf_12 rfl (lv_at hl 0 rfl) ?_
      refine va_get (D := D.1) (ci := 0) (v := .ref (aT 12)) (C := RX0) (T := TX0) (N := 19) hx hb hts wi_X0 hown X.1 X.2.1 0 rfl rfl 12 (by decide) (hts _ q2_6) (fun _ h9 => h9) (fl_get (by decide)) dX0_endOf_13 ?_
      refine lv_iload_n hx hb dX0_endOf_16 rfl (lv_at hl 1 rfl) ?_
      obtain ⟨h_1, hF⟩ := grd_some hF
      refine va_iald (D := D.1) (f := gIA gT 12) hx hb X.1 X.2.1 10 9 rfl rfl (inB_ok h_1) dX0_endOf_17 ?_
      refine lv_aload_n hx hb dX0_endOf_18 rfl (lv_at hl 0 rfl) ?_
      refine va_get (D := D.1) (ci := 0) (v := .int (gI gT 8)) (C := RX0) (T := TX0) (N := 19) hx hb hts wi_X0 hown X.1 X.2.1 0 rfl rfl 8 (by decide) (hts _ q1_237) (fun _ h9 => h9) (fl_get (by decide)) dX0_endOf_19 ?_
      refine va_mmin hx hb (by rw [hml]; exact hl.1.symm) hown (hts _ q4_213) (hts _ q3_128) (hts _ q1_14) (hts _ q3_129) (Nat.le_of_ble_eq_true rfl) (Nat.le_of_ble_eq_true rfl) (Nat.le_of_ble_eq_true rfl) (Nat.le_of_ble_eq_true rfl) dX0_endOf_22 ?_
      refine lv_goto (tgt := 29) hx hb dX0_endOf_25 (by decide) ?_
      have hq := Option.some.inj hF
      subst hq
      exact rt_i C X dX0_endOf_29

/-! ### X0_add -/
theorem dX0_add_0 : decode cX0_add 0 = .ok (.aload_n 0, 1) := by decide +kernel
theorem dX0_add_1 : decode cX0_add 1 = .ok (.getfield 45, 3) := by decide +kernel
theorem dX0_add_4 : decode cX0_add 4 = .ok (.ifCond .ne 13, 3) := by decide +kernel
theorem dX0_add_7 : decode cX0_add 7 = .ok (.aload_n 0, 1) := by decide +kernel
theorem dX0_add_8 : decode cX0_add 8 = .ok (.getfield 38, 3) := by decide +kernel
theorem dX0_add_11 : decode cX0_add 11 = .ok (.sipush 840, 3) := by decide +kernel
theorem dX0_add_14 : decode cX0_add 14 = .ok (.if_icmp .lt 5, 3) := by decide +kernel
theorem dX0_add_17 : decode cX0_add 17 = .ok (.iconst (-1), 1) := by decide +kernel
theorem dX0_add_18 : decode cX0_add 18 = .ok (.ireturn, 1) := by decide +kernel
theorem dX0_add_19 : decode cX0_add 19 = .ok (.aload_n 0, 1) := by decide +kernel
theorem dX0_add_20 : decode cX0_add 20 = .ok (.getfield 38, 3) := by decide +kernel
theorem dX0_add_23 : decode cX0_add 23 = .ok (.istore_n 3, 1) := by decide +kernel
theorem dX0_add_24 : decode cX0_add 24 = .ok (.aload_n 0, 1) := by decide +kernel
theorem dX0_add_25 : decode cX0_add 25 = .ok (.getfield 9, 3) := by decide +kernel
theorem dX0_add_28 : decode cX0_add 28 = .ok (.iload_n 3, 1) := by decide +kernel
theorem dX0_add_29 : decode cX0_add 29 = .ok (.iload_n 1, 1) := by decide +kernel
theorem dX0_add_30 : decode cX0_add 30 = .ok (.iastore, 1) := by decide +kernel
theorem dX0_add_31 : decode cX0_add 31 = .ok (.aload_n 0, 1) := by decide +kernel
theorem dX0_add_32 : decode cX0_add 32 = .ok (.getfield 15, 3) := by decide +kernel
theorem dX0_add_35 : decode cX0_add 35 = .ok (.iload_n 3, 1) := by decide +kernel
theorem dX0_add_36 : decode cX0_add 36 = .ok (.iload_n 2, 1) := by decide +kernel
theorem dX0_add_37 : decode cX0_add 37 = .ok (.iastore, 1) := by decide +kernel
theorem dX0_add_38 : decode cX0_add 38 = .ok (.aload_n 0, 1) := by decide +kernel
theorem dX0_add_39 : decode cX0_add 39 = .ok (.getfield 18, 3) := by decide +kernel
theorem dX0_add_42 : decode cX0_add 42 = .ok (.iload_n 3, 1) := by decide +kernel
theorem dX0_add_43 : decode cX0_add 43 = .ok (.iconst 0, 1) := by decide +kernel
theorem dX0_add_44 : decode cX0_add 44 = .ok (.iastore, 1) := by decide +kernel
theorem dX0_add_45 : decode cX0_add 45 = .ok (.aload_n 0, 1) := by decide +kernel
theorem dX0_add_46 : decode cX0_add 46 = .ok (.getfield 21, 3) := by decide +kernel
theorem dX0_add_49 : decode cX0_add 49 = .ok (.iload_n 3, 1) := by decide +kernel
theorem dX0_add_50 : decode cX0_add 50 = .ok (.iconst 0, 1) := by decide +kernel
theorem dX0_add_51 : decode cX0_add 51 = .ok (.iastore, 1) := by decide +kernel
theorem dX0_add_52 : decode cX0_add 52 = .ok (.aload_n 0, 1) := by decide +kernel
theorem dX0_add_53 : decode cX0_add 53 = .ok (.getfield 24, 3) := by decide +kernel
theorem dX0_add_56 : decode cX0_add 56 = .ok (.iload_n 3, 1) := by decide +kernel
theorem dX0_add_57 : decode cX0_add 57 = .ok (.iconst 0, 1) := by decide +kernel
theorem dX0_add_58 : decode cX0_add 58 = .ok (.iastore, 1) := by decide +kernel
theorem dX0_add_59 : decode cX0_add 59 = .ok (.aload_n 0, 1) := by decide +kernel
theorem dX0_add_60 : decode cX0_add 60 = .ok (.getfield 27, 3) := by decide +kernel
theorem dX0_add_63 : decode cX0_add 63 = .ok (.iload_n 3, 1) := by decide +kernel
theorem dX0_add_64 : decode cX0_add 64 = .ok (.iconst 0, 1) := by decide +kernel
theorem dX0_add_65 : decode cX0_add 65 = .ok (.iastore, 1) := by decide +kernel
theorem dX0_add_66 : decode cX0_add 66 = .ok (.aload_n 0, 1) := by decide +kernel
theorem dX0_add_67 : decode cX0_add 67 = .ok (.getfield 30, 3) := by decide +kernel
theorem dX0_add_70 : decode cX0_add 70 = .ok (.iload_n 3, 1) := by decide +kernel
theorem dX0_add_71 : decode cX0_add 71 = .ok (.lconst 0, 1) := by decide +kernel
theorem dX0_add_72 : decode cX0_add 72 = .ok (.lastore, 1) := by decide +kernel
theorem dX0_add_73 : decode cX0_add 73 = .ok (.aload_n 0, 1) := by decide +kernel
theorem dX0_add_74 : decode cX0_add 74 = .ok (.getfield 34, 3) := by decide +kernel
theorem dX0_add_77 : decode cX0_add 77 = .ok (.iload_n 3, 1) := by decide +kernel
theorem dX0_add_78 : decode cX0_add 78 = .ok (.dconst 0, 1) := by decide +kernel
theorem dX0_add_79 : decode cX0_add 79 = .ok (.dastore, 1) := by decide +kernel
theorem dX0_add_80 : decode cX0_add 80 = .ok (.aload_n 0, 1) := by decide +kernel
theorem dX0_add_81 : decode cX0_add 81 = .ok (.dup, 1) := by decide +kernel
theorem dX0_add_82 : decode cX0_add 82 = .ok (.getfield 38, 3) := by decide +kernel
theorem dX0_add_85 : decode cX0_add 85 = .ok (.iconst 1, 1) := by decide +kernel
theorem dX0_add_86 : decode cX0_add 86 = .ok (.iadd, 1) := by decide +kernel
theorem dX0_add_87 : decode cX0_add 87 = .ok (.putfield 38, 3) := by decide +kernel
theorem dX0_add_90 : decode cX0_add 90 = .ok (.iload_n 3, 1) := by decide +kernel
theorem dX0_add_91 : decode cX0_add 91 = .ok (.ireturn, 1) := by decide +kernel
abbrev R_X0_add : Room := ({ frames := 0, cells := 0, slots := 0, locals := 0 } : Room)
def f_X0_add (gT : Gs) (x0 : Int32) (x1 : Int32) : Option (Int32 × Gs) :=
  if (gI gT 10) = 0 then (if (gI gT 8) < (840 : Int32) then (grd (inB (gI gT 8) 840) (grd (inB (gI gT 8) 840) (grd (inB (gI gT 8) 840) (grd (inB (gI gT 8) 840) (grd (inB (gI gT 8) 840) (grd (inB (gI gT 8) 840) (grd (inB (gI gT 8) 840) (grd (inB (gI gT 8) 840) (some (gI gT 8, (sI (sDA (sLA (sIA (sIA (sIA (sIA (sIA (sIA gT 0 (upd (gIA gT 0) (gI gT 8).toNatClampNeg x0)) 1 (upd (gIA gT 1) (gI gT 8).toNatClampNeg x1)) 2 (upd (gIA gT 2) (gI gT 8).toNatClampNeg (0 : Int32))) 3 (upd (gIA gT 3) (gI gT 8).toNatClampNeg (0 : Int32))) 4 (upd (gIA gT 4) (gI gT 8).toNatClampNeg (0 : Int32))) 5 (upd (gIA gT 5) (gI gT 8).toNatClampNeg (0 : Int32))) 6 (vp_updL (gLA gT 6) (gI gT 8).toNatClampNeg (0 : Int64))) 7 (vf_upd (gDA gT 7) (gI gT 8).toNatClampNeg FP.dconst0)) 8 ((gI gT 8) + (1 : Int32))))))))))))) else (some ((-1 : Int32), gT))) else (some ((-1 : Int32), gT))
set_option maxHeartbeats 4000000 in
set_option maxRecDepth 100000 in
theorem c_X0_add (l : Launch) (D : Dx) (hT : Nat) (aT : Nat → Nat) (yT : Nat → ClassId) (gT : Gs) (x0 : Int32) (x1 : Int32) (q : Int32 × Gs) (hF : f_X0_add gT x0 x1 = some q) (sz : Nat) : Met l yX0_add (ws_ yX0_add cX0_add 4 (some .int)) R_X0_add (PC D (tX0 yT) [.ref hT, .int x0, .int x1] (wX0 hT aT yT gT) sz) (QI D (va_A (wX0 hT aT yT gT) sz) (wX0 hT aT yT q.2) q.1) 0 0 (va_A (wX0 hT aT yT gT) sz) := by
  refine Met.ofW (cc := cX0_add) (maxL := 4) (ret := (some .int)) (by decide) rfl ?_
  intro p e s m args below meth c s₁ B hml hv
  obtain ⟨rfl, hsz, hP, hK, hD, hN⟩ := hv
  subst hsz
  have C : Cx p s m _ meth c cX0_add (some .int) 4 RX0 lw_all := Cx_of B hml
  have X := Hx_start hP hK hD hN
  obtain ⟨hx, hb, hr, -, hown, hts, hlk⟩ := id C
  generalize va_A (wX0 hT aT yT gT) s.heap.size = A at X ⊢
  have hl := lv_entry ([.ref hT, .int x0, .int x1]) (n := 4) (Nat.le_of_ble_eq_true rfl)
  rw [lg_entry_eq]
  generalize (lg_sl ([.ref hT, .int x0, .int x1]) ++ List.replicate (4 - (lg_sl ([.ref hT, .int x0, .int x1])).length) Slot.unset).toArray = ls at hl ⊢
  have hl : lv_has ls 4 [(0, .ref hT), (1, .int x0), (2, .int x1)] := hl
  unfold f_X0_add at hF
  refine lv_aload_n hx hb dX0_add_0 rfl (lv_at hl 0 rfl) ?_
  refine va_get (D := D.1) (ci := 0) (v := .int (gI gT 10)) (C := RX0) (T := TX0) (N := 19) hx hb hts wi_X0 hown X.1 X.2.1 0 rfl rfl 10 (by decide) (hts _ q2_2) (fun _ h9 => h9) (fl_get (by decide)) dX0_add_1 ?_
  refine lv_if_ne (tgt := 17) hx hb dX0_add_4 (by decide) (fun c => ?_) (fun c => ?_)
  · replace hF := iF c hF
    refine lv_iconst (v := (-1 : Int32)) hx hb dX0_add_17 (by decide) ?_
    have hq := Option.some.inj hF
    subst hq
    exact rt_i C X dX0_add_18
  · replace hF := iT c hF
    refine lv_aload_n hx hb dX0_add_7 rfl (lv_at hl 0 rfl) ?_
    refine va_get (D := D.1) (ci := 0) (v := .int (gI gT 8)) (C := RX0) (T := TX0) (N := 19) hx hb hts wi_X0 hown X.1 X.2.1 0 rfl rfl 8 (by decide) (hts _ q1_237) (fun _ h9 => h9) (fl_get (by decide)) dX0_add_8 ?_
    refine lv_sipush (v := (840 : Int32)) hx hb dX0_add_11 (by decide) ?_
    refine lv_icmp_lt (tgt := 19) hx hb dX0_add_14 (by decide) (fun c => ?_) (fun c => ?_)
    · replace hF := iT c hF
      refine lv_aload_n hx hb dX0_add_19 rfl (lv_at hl 0 rfl) ?_
      refine va_get (D := D.1) (ci := 0) (v := .int (gI gT 8)) (C := RX0) (T := TX0) (N := 19) hx hb hts wi_X0 hown X.1 X.2.1 0 rfl rfl 8 (by decide) (hts _ q1_237) (fun _ h9 => h9) (fl_get (by decide)) dX0_add_20 ?_
      refine lv_istore_n (lv' := [(3, .int (gI gT 8)), (0, .ref hT), (1, .int x0), (2, .int x1)]) hx hb dX0_add_23 rfl hl (by decide) rfl (fun ls hl => ?_)
      refine lv_aload_n hx hb dX0_add_24 rfl (lv_at hl 1 rfl) ?_
      refine va_get (D := D.1) (ci := 0) (v := .ref (aT 0)) (C := RX0) (T := TX0) (N := 19) hx hb hts wi_X0 hown X.1 X.2.1 0 rfl rfl 0 (by decide) (hts _ q1_207) (fun _ h9 => h9) (fl_get (by decide)) dX0_add_25 ?_
      refine lv_iload_n hx hb dX0_add_28 rfl (lv_at hl 0 rfl) ?_
      refine lv_iload_n hx hb dX0_add_29 rfl (lv_at hl 2 rfl) ?_
      obtain ⟨h_1, hF⟩ := grd_some hF
      refine va_iast (D := D.1) (f := gIA gT 0) hx hb X.1 X.2.1 X.2.2.1 X.2.2.2.1 1 0 rfl rfl (inB_ok h_1) dX0_add_30 (fun H locs hP hD hS => ?_)
      have X : Hx D (tX0 yT) A s H locs (wX0 hT aT yT (sIA gT 0 (upd (gIA gT 0) (gI gT 8).toNatClampNeg x0))) := Hx_set X (wG_sIA (i := 0) (k := 0) ndX0 rfl rfl) hP hD hS
      refine lv_aload_n hx hb dX0_add_31 rfl (lv_at hl 1 rfl) ?_
      refine va_get (D := D.1) (ci := 0) (v := .ref (aT 1)) (C := RX0) (T := TX0) (N := 19) hx hb hts wi_X0 hown X.1 X.2.1 0 rfl rfl 1 (by decide) (hts _ q1_211) (fun _ h9 => h9) (fl_get (by decide)) dX0_add_32 ?_
      refine lv_iload_n hx hb dX0_add_35 rfl (lv_at hl 0 rfl) ?_
      refine lv_iload_n hx hb dX0_add_36 rfl (lv_at hl 3 rfl) ?_
      obtain ⟨h_2, hF⟩ := grd_some hF
      refine va_iast (D := D.1) (f := gIA gT 1) hx hb X.1 X.2.1 X.2.2.1 X.2.2.2.1 2 1 rfl rfl (inB_ok h_2) dX0_add_37 (fun H locs hP hD hS => ?_)
      have X : Hx D (tX0 yT) A s H locs (wX0 hT aT yT (sIA (sIA gT 0 (upd (gIA gT 0) (gI gT 8).toNatClampNeg x0)) 1 (upd (gIA gT 1) (gI gT 8).toNatClampNeg x1))) := Hx_set X (wG_sIA (i := 1) (k := 1) ndX0 rfl rfl) hP hD hS
      refine lv_aload_n hx hb dX0_add_38 rfl (lv_at hl 1 rfl) ?_
      refine va_get (D := D.1) (ci := 0) (v := .ref (aT 2)) (C := RX0) (T := TX0) (N := 19) hx hb hts wi_X0 hown X.1 X.2.1 0 rfl rfl 2 (by decide) (hts _ q1_214) (fun _ h9 => h9) (fl_get (by decide)) dX0_add_39 ?_
      refine lv_iload_n hx hb dX0_add_42 rfl (lv_at hl 0 rfl) ?_
      refine lv_iconst (v := (0 : Int32)) hx hb dX0_add_43 (by decide) ?_
      obtain ⟨h_3, hF⟩ := grd_some hF
      refine va_iast (D := D.1) (f := gIA gT 2) hx hb X.1 X.2.1 X.2.2.1 X.2.2.2.1 3 2 rfl rfl (inB_ok h_3) dX0_add_44 (fun H locs hP hD hS => ?_)
      have X : Hx D (tX0 yT) A s H locs (wX0 hT aT yT (sIA (sIA (sIA gT 0 (upd (gIA gT 0) (gI gT 8).toNatClampNeg x0)) 1 (upd (gIA gT 1) (gI gT 8).toNatClampNeg x1)) 2 (upd (gIA gT 2) (gI gT 8).toNatClampNeg (0 : Int32)))) := Hx_set X (wG_sIA (i := 2) (k := 2) ndX0 rfl rfl) hP hD hS
      refine lv_aload_n hx hb dX0_add_45 rfl (lv_at hl 1 rfl) ?_
      refine va_get (D := D.1) (ci := 0) (v := .ref (aT 3)) (C := RX0) (T := TX0) (N := 19) hx hb hts wi_X0 hown X.1 X.2.1 0 rfl rfl 3 (by decide) (hts _ q1_218) (fun _ h9 => h9) (fl_get (by decide)) dX0_add_46 ?_
      refine lv_iload_n hx hb dX0_add_49 rfl (lv_at hl 0 rfl) ?_
      refine lv_iconst (v := (0 : Int32)) hx hb dX0_add_50 (by decide) ?_
      obtain ⟨h_4, hF⟩ := grd_some hF
      refine va_iast (D := D.1) (f := gIA gT 3) hx hb X.1 X.2.1 X.2.2.1 X.2.2.2.1 4 3 rfl rfl (inB_ok h_4) dX0_add_51 (fun H locs hP hD hS => ?_)
      have X : Hx D (tX0 yT) A s H locs (wX0 hT aT yT (sIA (sIA (sIA (sIA gT 0 (upd (gIA gT 0) (gI gT 8).toNatClampNeg x0)) 1 (upd (gIA gT 1) (gI gT 8).toNatClampNeg x1)) 2 (upd (gIA gT 2) (gI gT 8).toNatClampNeg (0 : Int32))) 3 (upd (gIA gT 3) (gI gT 8).toNatClampNeg (0 : Int32)))) := Hx_set X (wG_sIA (i := 3) (k := 3) ndX0 rfl rfl) hP hD hS
      refine lv_aload_n hx hb dX0_add_52 rfl (lv_at hl 1 rfl) ?_
      refine va_get (D := D.1) (ci := 0) (v := .ref (aT 4)) (C := RX0) (T := TX0) (N := 19) hx hb hts wi_X0 hown X.1 X.2.1 0 rfl rfl 4 (by decide) (hts _ q1_223) (fun _ h9 => h9) (fl_get (by decide)) dX0_add_53 ?_
      refine lv_iload_n hx hb dX0_add_56 rfl (lv_at hl 0 rfl) ?_
      refine lv_iconst (v := (0 : Int32)) hx hb dX0_add_57 (by decide) ?_
      obtain ⟨h_5, hF⟩ := grd_some hF
      refine va_iast (D := D.1) (f := gIA gT 4) hx hb X.1 X.2.1 X.2.2.1 X.2.2.2.1 5 4 rfl rfl (inB_ok h_5) dX0_add_58 (fun H locs hP hD hS => ?_)
      have X : Hx D (tX0 yT) A s H locs (wX0 hT aT yT (sIA (sIA (sIA (sIA (sIA gT 0 (upd (gIA gT 0) (gI gT 8).toNatClampNeg x0)) 1 (upd (gIA gT 1) (gI gT 8).toNatClampNeg x1)) 2 (upd (gIA gT 2) (gI gT 8).toNatClampNeg (0 : Int32))) 3 (upd (gIA gT 3) (gI gT 8).toNatClampNeg (0 : Int32))) 4 (upd (gIA gT 4) (gI gT 8).toNatClampNeg (0 : Int32)))) := Hx_set X (wG_sIA (i := 4) (k := 4) ndX0 rfl rfl) hP hD hS
      refine lv_aload_n hx hb dX0_add_59 rfl (lv_at hl 1 rfl) ?_
      refine va_get (D := D.1) (ci := 0) (v := .ref (aT 5)) (C := RX0) (T := TX0) (N := 19) hx hb hts wi_X0 hown X.1 X.2.1 0 rfl rfl 5 (by decide) (hts _ q1_226) (fun _ h9 => h9) (fl_get (by decide)) dX0_add_60 ?_
      refine lv_iload_n hx hb dX0_add_63 rfl (lv_at hl 0 rfl) ?_
      refine lv_iconst (v := (0 : Int32)) hx hb dX0_add_64 (by decide) ?_
      obtain ⟨h_6, hF⟩ := grd_some hF
      refine va_iast (D := D.1) (f := gIA gT 5) hx hb X.1 X.2.1 X.2.2.1 X.2.2.2.1 6 5 rfl rfl (inB_ok h_6) dX0_add_65 (fun H locs hP hD hS => ?_)
      have X : Hx D (tX0 yT) A s H locs (wX0 hT aT yT (sIA (sIA (sIA (sIA (sIA (sIA gT 0 (upd (gIA gT 0) (gI gT 8).toNatClampNeg x0)) 1 (upd (gIA gT 1) (gI gT 8).toNatClampNeg x1)) 2 (upd (gIA gT 2) (gI gT 8).toNatClampNeg (0 : Int32))) 3 (upd (gIA gT 3) (gI gT 8).toNatClampNeg (0 : Int32))) 4 (upd (gIA gT 4) (gI gT 8).toNatClampNeg (0 : Int32))) 5 (upd (gIA gT 5) (gI gT 8).toNatClampNeg (0 : Int32)))) := Hx_set X (wG_sIA (i := 5) (k := 5) ndX0 rfl rfl) hP hD hS
      refine lv_aload_n hx hb dX0_add_66 rfl (lv_at hl 1 rfl) ?_
      refine va_get (D := D.1) (ci := 0) (v := .ref (aT 6)) (C := RX0) (T := TX0) (N := 19) hx hb hts wi_X0 hown X.1 X.2.1 0 rfl rfl 6 (by decide) (hts _ q1_231) (fun _ h9 => h9) (fl_get (by decide)) dX0_add_67 ?_
      refine lv_iload_n hx hb dX0_add_70 rfl (lv_at hl 0 rfl) ?_
      refine lv_lconst (v := (0 : Int64)) hx hb dX0_add_71 (by decide) ?_
      obtain ⟨h_7, hF⟩ := grd_some hF
      refine va_last (D := D.1) (f := gLA gT 6) hx hb X.1 X.2.1 X.2.2.1 X.2.2.2.1 7 6 rfl rfl (inB_ok h_7) dX0_add_72 (fun H locs hP hD hS => ?_)
      have X : Hx D (tX0 yT) A s H locs (wX0 hT aT yT (sLA (sIA (sIA (sIA (sIA (sIA (sIA gT 0 (upd (gIA gT 0) (gI gT 8).toNatClampNeg x0)) 1 (upd (gIA gT 1) (gI gT 8).toNatClampNeg x1)) 2 (upd (gIA gT 2) (gI gT 8).toNatClampNeg (0 : Int32))) 3 (upd (gIA gT 3) (gI gT 8).toNatClampNeg (0 : Int32))) 4 (upd (gIA gT 4) (gI gT 8).toNatClampNeg (0 : Int32))) 5 (upd (gIA gT 5) (gI gT 8).toNatClampNeg (0 : Int32))) 6 (vp_updL (gLA gT 6) (gI gT 8).toNatClampNeg (0 : Int64)))) := Hx_set X (wG_sLA (i := 6) (k := 6) ndX0 rfl rfl) hP hD hS
      refine lv_aload_n hx hb dX0_add_73 rfl (lv_at hl 1 rfl) ?_
      refine va_get (D := D.1) (ci := 0) (v := .ref (aT 7)) (C := RX0) (T := TX0) (N := 19) hx hb hts wi_X0 hown X.1 X.2.1 0 rfl rfl 7 (by decide) (hts _ q1_234) (fun _ h9 => h9) (fl_get (by decide)) dX0_add_74 ?_
      refine lv_iload_n hx hb dX0_add_77 rfl (lv_at hl 0 rfl) ?_
      refine lv_dconst0 hx hb dX0_add_78 ?_
      obtain ⟨h_8, hF⟩ := grd_some hF
      refine va_dast (D := D.1) (f := gDA gT 7) hx hb X.1 X.2.1 X.2.2.1 X.2.2.2.1 8 7 rfl rfl (inB_ok h_8) dX0_add_79 (fun H locs hP hD hS => ?_)
      have X : Hx D (tX0 yT) A s H locs (wX0 hT aT yT (sDA (sLA (sIA (sIA (sIA (sIA (sIA (sIA gT 0 (upd (gIA gT 0) (gI gT 8).toNatClampNeg x0)) 1 (upd (gIA gT 1) (gI gT 8).toNatClampNeg x1)) 2 (upd (gIA gT 2) (gI gT 8).toNatClampNeg (0 : Int32))) 3 (upd (gIA gT 3) (gI gT 8).toNatClampNeg (0 : Int32))) 4 (upd (gIA gT 4) (gI gT 8).toNatClampNeg (0 : Int32))) 5 (upd (gIA gT 5) (gI gT 8).toNatClampNeg (0 : Int32))) 6 (vp_updL (gLA gT 6) (gI gT 8).toNatClampNeg (0 : Int64))) 7 (vf_upd (gDA gT 7) (gI gT 8).toNatClampNeg FP.dconst0))) := Hx_set X (wG_sDA (i := 7) (k := 7) ndX0 rfl rfl) hP hD hS
      refine lv_aload_n hx hb dX0_add_80 rfl (lv_at hl 1 rfl) ?_
      refine lv_dup hx hb dX0_add_81 rfl ?_
      refine va_get (D := D.1) (ci := 0) (v := .int (gI gT 8)) (C := RX0) (T := TX0) (N := 19) hx hb hts wi_X0 hown X.1 X.2.1 0 rfl rfl 8 (by decide) (hts _ q1_237) (fun _ h9 => h9) (fl_get (by decide)) dX0_add_82 ?_
      refine lv_iconst (v := (1 : Int32)) hx hb dX0_add_85 (by decide) ?_
      refine lv_iadd hx hb dX0_add_86 ?_
      refine va_put (D := D.1) (ci := 0) (v := .int ((gI gT 8) + (1 : Int32))) (ty := .int) (C := RX0) (T := TX0) (N := 19) hx hb hts wi_X0 tyX0 tyX0_ok nmX0 hown X.1 X.2.1 X.2.2.1 X.2.2.2.1 0 rfl rfl 8 (by decide) (hts _ q1_237) (fun _ h9 => h9) rfl (by decide +kernel) rfl rfl (by rw [List.length_map, List.length_range]; decide) dX0_add_87 (fun H locs hP hD hS => ?_)
      have X : Hx D (tX0 yT) A s H locs (wX0 hT aT yT (sI (sDA (sLA (sIA (sIA (sIA (sIA (sIA (sIA gT 0 (upd (gIA gT 0) (gI gT 8).toNatClampNeg x0)) 1 (upd (gIA gT 1) (gI gT 8).toNatClampNeg x1)) 2 (upd (gIA gT 2) (gI gT 8).toNatClampNeg (0 : Int32))) 3 (upd (gIA gT 3) (gI gT 8).toNatClampNeg (0 : Int32))) 4 (upd (gIA gT 4) (gI gT 8).toNatClampNeg (0 : Int32))) 5 (upd (gIA gT 5) (gI gT 8).toNatClampNeg (0 : Int32))) 6 (vp_updL (gLA gT 6) (gI gT 8).toNatClampNeg (0 : Int64))) 7 (vf_upd (gDA gT 7) (gI gT 8).toNatClampNeg FP.dconst0)) 8 ((gI gT 8) + (1 : Int32)))) := Hx_set X (wG_sI (k := 8) rfl) hP hD hS
      refine lv_iload_n hx hb dX0_add_90 rfl (lv_at hl 0 rfl) ?_
      have hq := Option.some.inj hF
      subst hq
      exact rt_i C X dX0_add_91
    · replace hF := iF c hF
      refine lv_iconst (v := (-1 : Int32)) hx hb dX0_add_17 (by decide) ?_
      have hq := Option.some.inj hF
      subst hq
      exact rt_i C X dX0_add_18

/-! ### X4_clear -/
theorem dX4_clear_0 : decode cX4_clear 0 = .ok (.aload_n 0, 1) := by decide +kernel
theorem dX4_clear_1 : decode cX4_clear 1 = .ok (.getfield 12, 3) := by decide +kernel
theorem dX4_clear_4 : decode cX4_clear 4 = .ok (.invokevirtual 62, 3) := by decide +kernel
theorem dX4_clear_7 : decode cX4_clear 7 = .ok (.aload_n 0, 1) := by decide +kernel
theorem dX4_clear_8 : decode cX4_clear 8 = .ok (.iconst 0, 1) := by decide +kernel
theorem dX4_clear_9 : decode cX4_clear 9 = .ok (.putfield 29, 3) := by decide +kernel
theorem dX4_clear_12 : decode cX4_clear 12 = .ok (.aload_n 0, 1) := by decide +kernel
theorem dX4_clear_13 : decode cX4_clear 13 = .ok (.iconst 0, 1) := by decide +kernel
theorem dX4_clear_14 : decode cX4_clear 14 = .ok (.putfield 33, 3) := by decide +kernel
theorem dX4_clear_17 : decode cX4_clear 17 = .ok (.aload_n 0, 1) := by decide +kernel
theorem dX4_clear_18 : decode cX4_clear 18 = .ok (.iconst 0, 1) := by decide +kernel
theorem dX4_clear_19 : decode cX4_clear 19 = .ok (.putfield 36, 3) := by decide +kernel
theorem dX4_clear_22 : decode cX4_clear 22 = .ok (.return_, 1) := by decide +kernel
abbrev R_X4_clear : Room := ({ frames := 1, cells := 0, slots := 0, locals := 20 } : Room)
def f_X4_clear (gT : Gs) (gT_0 : Gs) : Option (Gs × Gs) :=
  bnd (f_X0_clear gT_0) (fun q_1 => some ((sI (sI (sI gT 4 (0 : Int32)) 5 (0 : Int32)) 6 (0 : Int32)), q_1))
set_option maxHeartbeats 4000000 in
set_option maxRecDepth 100000 in
theorem c_X4_clear (l : Launch) (D : Dx) (hT : Nat) (aT : Nat → Nat) (yT : Nat → ClassId) (aT_0 : Nat → Nat) (yT_0 : Nat → ClassId) (gT : Gs) (gT_0 : Gs) (q : Gs × Gs) (hF : f_X4_clear gT gT_0 = some q) (sz : Nat) : Met l yX4_clear (ws_ yX4_clear cX4_clear 1 none) R_X4_clear (PC D (tX4 yT ++ (tX0 yT_0)) [.ref hT] (wX4 hT aT yT gT ++ (wX0 (aT 0) aT_0 yT_0 gT_0)) sz) (QV D (va_A (wX4 hT aT yT gT ++ (wX0 (aT 0) aT_0 yT_0 gT_0)) sz) (wX4 hT aT yT q.1 ++ (wX0 (aT 0) aT_0 yT_0 q.2))) 0 0 (va_A (wX4 hT aT yT gT ++ (wX0 (aT 0) aT_0 yT_0 gT_0)) sz) := by
  refine Met.ofW (cc := cX4_clear) (maxL := 1) (ret := none) (by decide) rfl ?_
  intro p e s m args below meth c s₁ B hml hv
  obtain ⟨rfl, hsz, hP, hK, hD, hN⟩ := hv
  subst hsz
  have C : Cx p s m _ meth c cX4_clear none 1 RX4 lw_all := Cx_of B hml
  have X := Hx_start hP hK hD hN
  obtain ⟨hx, hb, hr, -, hown, hts, hlk⟩ := id C
  generalize va_A (wX4 hT aT yT gT ++ (wX0 (aT 0) aT_0 yT_0 gT_0)) s.heap.size = A at X ⊢
  have hl := lv_entry ([.ref hT]) (n := 1) (Nat.le_of_ble_eq_true rfl)
  rw [lg_entry_eq]
  generalize (lg_sl ([.ref hT]) ++ List.replicate (1 - (lg_sl ([.ref hT])).length) Slot.unset).toArray = ls at hl ⊢
  have hl : lv_has ls 1 [(0, .ref hT)] := hl
  unfold f_X4_clear at hF
  refine lv_aload_n hx hb dX4_clear_0 rfl (lv_at hl 0 rfl) ?_
  refine va_get (D := D.1) (ci := 4) (v := .ref (aT 0)) (C := RX4) (T := TX4) (N := 14) hx hb hts wi_X4 hown X.1 X.2.1 0 rfl rfl 0 (by decide) (hts _ q2_67) (fun _ h9 => h9) (fl_get (by decide)) dX4_clear_1 ?_
  obtain ⟨q_1, hc_2, hF⟩ := bnd_some hF
  refine cV_v (As := []) (rest := []) C X (c_X0_clear l D (aT 0) aT_0 yT_0 gT_0 q_1 hc_2 _) (cwV 0 hts (good_V q3_115 q3_116 q3_117 q1_8 q3_118) rfl rfl rfl (by decide +kernel) ⟨Nat.le_of_ble_eq_true rfl, Nat.le_of_ble_eq_true rfl⟩) (va_recv X.1 X.2.1 (ci := 0) (q0 := 11) rfl rfl) (X.1.sub (tys' := tX0 yT_0) [10, 11, 12, 13, 14, 15, 16, 17, 18, 19, 20, 21, 22, 23, 24] rfl) (X.2.1.sub (ws' := wX0 (aT 0) aT_0 yT_0 gT_0) [11, 12, 13, 14, 15, 16, 17, 18, 19, 20, 21, 22, 23, 24, 25, 26] rfl) (X.2.2.1.sub (ws' := wX0 (aT 0) aT_0 yT_0 gT_0) [11, 12, 13, 14, 15, 16, 17, 18, 19, 20, 21, 22, 23, 24, 25, 26] (by decide) rfl) (free_of (wC := wX0 (aT 0) aT_0 yT_0 gT_0) (isC := [11, 12, 13, 14, 15, 16, 17, 18, 19, 20, 21, 22, 23, 24, 25, 26]) X rfl) hl.1 rfl rfl (Nat.le_of_ble_eq_true rfl) dX4_clear_4 ⟨Nat.le_of_ble_eq_true rfl, Nat.le_of_ble_eq_true rfl⟩ (fun t H1 locs1 ht hB hk hS => ?_)
  have X : Hx D (tX4 yT ++ (tX0 yT_0)) A s H1 locs1 (wX4 hT aT yT gT ++ (wX0 (aT 0) aT_0 yT_0 q_1)) := Hx_after (isC := [11, 12, 13, 14, 15, 16, 17, 18, 19, 20, 21, 22, 23, 24, 25, 26]) (isR := [0, 1, 2, 3, 4, 5, 6, 7, 8, 9, 10]) (pm := [0, 1, 2, 3, 4, 5, 6, 7, 8, 9, 10, 11, 12, 13, 14, 15, 16, 17, 18, 19, 20, 21, 22, 23, 24, 25, 26]) (wr := wX4 hT aT yT gT) X ⟨rfl, rfl, by decide, by decide, rfl, by decide⟩ ht hB hk hS
  clear hk hS ht hB
  generalize H1 = H at X ⊢
  generalize locs1 = locs at X ⊢
  refine lv_aload_n hx hb dX4_clear_7 rfl (lv_at hl 0 rfl) ?_
  refine lv_iconst (v := (0 : Int32)) hx hb dX4_clear_8 (by decide) ?_
  refine va_put (D := D.1) (ci := 4) (v := .int (0 : Int32)) (ty := .int) (C := RX4) (T := TX4) (N := 14) hx hb hts wi_X4 tyX4 tyX4_ok nmX4 hown X.1 X.2.1 X.2.2.1 X.2.2.2.1 0 rfl rfl 4 (by decide) (hts _ q2_79) (fun _ h9 => h9) rfl (by decide +kernel) rfl rfl (by rw [List.length_map, List.length_range]; decide) dX4_clear_9 (fun H locs hP hD hS => ?_)
  have X : Hx D (tX4 yT ++ (tX0 yT_0)) A s H locs (wX4 hT aT yT (sI gT 4 (0 : Int32)) ++ (wX0 (aT 0) aT_0 yT_0 q_1)) := Hx_set X (set_l (by rw [wG_len (m := 11) rfl]; decide) (wG_sI (k := 4) rfl)) hP hD hS
  refine lv_aload_n hx hb dX4_clear_12 rfl (lv_at hl 0 rfl) ?_
  refine lv_iconst (v := (0 : Int32)) hx hb dX4_clear_13 (by decide) ?_
  refine va_put (D := D.1) (ci := 4) (v := .int (0 : Int32)) (ty := .int) (C := RX4) (T := TX4) (N := 14) hx hb hts wi_X4 tyX4 tyX4_ok nmX4 hown X.1 X.2.1 X.2.2.1 X.2.2.2.1 0 rfl rfl 5 (by decide) (hts _ q2_84) (fun _ h9 => h9) rfl (by decide +kernel) rfl rfl (by rw [List.length_map, List.length_range]; decide) dX4_clear_14 (fun H locs hP hD hS => ?_)
  have X : Hx D (tX4 yT ++ (tX0 yT_0)) A s H locs (wX4 hT aT yT (sI (sI gT 4 (0 : Int32)) 5 (0 : Int32)) ++ (wX0 (aT 0) aT_0 yT_0 q_1)) := Hx_set X (set_l (by rw [wG_len (m := 11) rfl]; decide) (wG_sI (k := 5) rfl)) hP hD hS
  refine lv_aload_n hx hb dX4_clear_17 rfl (lv_at hl 0 rfl) ?_
  refine lv_iconst (v := (0 : Int32)) hx hb dX4_clear_18 (by decide) ?_
  refine va_put (D := D.1) (ci := 4) (v := .int (0 : Int32)) (ty := .int) (C := RX4) (T := TX4) (N := 14) hx hb hts wi_X4 tyX4 tyX4_ok nmX4 hown X.1 X.2.1 X.2.2.1 X.2.2.2.1 0 rfl rfl 6 (by decide) (hts _ q2_89) (fun _ h9 => h9) rfl (by decide +kernel) rfl rfl (by rw [List.length_map, List.length_range]; decide) dX4_clear_19 (fun H locs hP hD hS => ?_)
  have X : Hx D (tX4 yT ++ (tX0 yT_0)) A s H locs (wX4 hT aT yT (sI (sI (sI gT 4 (0 : Int32)) 5 (0 : Int32)) 6 (0 : Int32)) ++ (wX0 (aT 0) aT_0 yT_0 q_1)) := Hx_set X (set_l (by rw [wG_len (m := 11) rfl]; decide) (wG_sI (k := 6) rfl)) hP hD hS
  have hq := Option.some.inj hF
  subst hq
  exact rt_v C X dX4_clear_22

/-! ### X4_putName -/
theorem dX4_putName_0 : decode cX4_putName 0 = .ok (.iload 4, 2) := by decide +kernel
theorem dX4_putName_2 : decode cX4_putName 2 = .ok (.bipush 10, 2) := by decide +kernel
theorem dX4_putName_4 : decode cX4_putName 4 = .ok (.invokestatic 65, 3) := by decide +kernel
theorem dX4_putName_7 : decode cX4_putName 7 = .ok (.istore 5, 2) := by decide +kernel
theorem dX4_putName_9 : decode cX4_putName 9 = .ok (.iload_n 3, 1) := by decide +kernel
theorem dX4_putName_10 : decode cX4_putName 10 = .ok (.ifCond .lt 12, 3) := by decide +kernel
theorem dX4_putName_13 : decode cX4_putName 13 = .ok (.iload 5, 2) := by decide +kernel
theorem dX4_putName_15 : decode cX4_putName 15 = .ok (.aload_n 2, 1) := by decide +kernel
theorem dX4_putName_16 : decode cX4_putName 16 = .ok (.arraylength, 1) := by decide +kernel
theorem dX4_putName_17 : decode cX4_putName 17 = .ok (.iload_n 3, 1) := by decide +kernel
theorem dX4_putName_18 : decode cX4_putName 18 = .ok (.isub, 1) := by decide +kernel
theorem dX4_putName_19 : decode cX4_putName 19 = .ok (.if_icmp .le 4, 3) := by decide +kernel
theorem dX4_putName_22 : decode cX4_putName 22 = .ok (.return_, 1) := by decide +kernel
theorem dX4_putName_23 : decode cX4_putName 23 = .ok (.aload_n 2, 1) := by decide +kernel
theorem dX4_putName_24 : decode cX4_putName 24 = .ok (.iload_n 3, 1) := by decide +kernel
theorem dX4_putName_25 : decode cX4_putName 25 = .ok (.aload_n 0, 1) := by decide +kernel
theorem dX4_putName_26 : decode cX4_putName 26 = .ok (.getfield 18, 3) := by decide +kernel
theorem dX4_putName_29 : decode cX4_putName 29 = .ok (.iload_n 1, 1) := by decide +kernel
theorem dX4_putName_30 : decode cX4_putName 30 = .ok (.bipush 10, 2) := by decide +kernel
theorem dX4_putName_32 : decode cX4_putName 32 = .ok (.imul, 1) := by decide +kernel
theorem dX4_putName_33 : decode cX4_putName 33 = .ok (.iload 5, 2) := by decide +kernel
theorem dX4_putName_35 : decode cX4_putName 35 = .ok (.invokestatic 71, 3) := by decide +kernel
theorem dX4_putName_38 : decode cX4_putName 38 = .ok (.aload_n 0, 1) := by decide +kernel
theorem dX4_putName_39 : decode cX4_putName 39 = .ok (.getfield 22, 3) := by decide +kernel
theorem dX4_putName_42 : decode cX4_putName 42 = .ok (.iload_n 1, 1) := by decide +kernel
theorem dX4_putName_43 : decode cX4_putName 43 = .ok (.iload 5, 2) := by decide +kernel
theorem dX4_putName_45 : decode cX4_putName 45 = .ok (.iastore, 1) := by decide +kernel
theorem dX4_putName_46 : decode cX4_putName 46 = .ok (.aload_n 0, 1) := by decide +kernel
theorem dX4_putName_47 : decode cX4_putName 47 = .ok (.getfield 26, 3) := by decide +kernel
theorem dX4_putName_50 : decode cX4_putName 50 = .ok (.iload_n 1, 1) := by decide +kernel
theorem dX4_putName_51 : decode cX4_putName 51 = .ok (.iload_n 3, 1) := by decide +kernel
theorem dX4_putName_52 : decode cX4_putName 52 = .ok (.iastore, 1) := by decide +kernel
theorem dX4_putName_53 : decode cX4_putName 53 = .ok (.return_, 1) := by decide +kernel
abbrev R_X4_putName : Room := ({ frames := 1, cells := 0, slots := 0, locals := 64 } : Room)
def f_X4_putName (gT : Gs) (gP1 : Gs) (x0 : Int32) (x2 : Int32) (x3 : Int32) : Option (Gs) :=
  if x2 < 0 then (some gT) else (if (if (10 : Int32) < x3 then (10 : Int32) else x3) ≤ ((3000 : Int32) - x2) then (grd (cpB x2 (x0 * (10 : Int32)) (if (10 : Int32) < x3 then (10 : Int32) else x3) 3000 600) (grd (fitB .byte (gIA gP1 0) x2 (if (10 : Int32) < x3 then (10 : Int32) else x3)) (grd (inB x0 60) (grd (inB x0 60) (some (sIA (sIA (sIA gT 1 (va_cpy (gIA gP1 0) (gIA gT 1) x2.toNatClampNeg (x0 * (10 : Int32)).toNatClampNeg (if (10 : Int32) < x3 then (10 : Int32) else x3).toNatClampNeg)) 2 (upd (gIA gT 2) x0.toNatClampNeg (if (10 : Int32) < x3 then (10 : Int32) else x3))) 3 (upd (gIA gT 3) x0.toNatClampNeg x2))))))) else (some gT))
set_option maxHeartbeats 4000000 in
set_option maxRecDepth 100000 in
theorem c_X4_putName (l : Launch) (D : Dx) (hT : Nat) (aT : Nat → Nat) (yT : Nat → ClassId) (hP1 : Nat) (aP1 : Nat → Nat) (yP1 : Nat → ClassId) (gT : Gs) (gP1 : Gs) (x0 : Int32) (x2 : Int32) (x3 : Int32) (q : Gs) (hF : f_X4_putName gT gP1 x0 x2 x3 = some q) (sz : Nat) : Met l yX4_putName (ws_ yX4_putName cX4_putName 6 none) R_X4_putName (PC D (tX4 yT ++ (tTP yP1)) [.ref hT, .int x0, .ref hP1, .int x2, .int x3] (wX4 hT aT yT gT ++ (wTP hP1 aP1 yP1 gP1)) sz) (QV D (va_A (wX4 hT aT yT gT ++ (wTP hP1 aP1 yP1 gP1)) sz) (wX4 hT aT yT q ++ (wTP hP1 aP1 yP1 gP1))) 0 0 (va_A (wX4 hT aT yT gT ++ (wTP hP1 aP1 yP1 gP1)) sz) := by
  refine Met.ofW (cc := cX4_putName) (maxL := 6) (ret := none) (by decide) rfl ?_
  intro p e s m args below meth c s₁ B hml hv
  obtain ⟨rfl, hsz, hP, hK, hD, hN⟩ := hv
  subst hsz
  have C : Cx p s m _ meth c cX4_putName none 6 RX4 lw_all := Cx_of B hml
  have X := Hx_start hP hK hD hN
  obtain ⟨hx, hb, hr, -, hown, hts, hlk⟩ := id C
  generalize va_A (wX4 hT aT yT gT ++ (wTP hP1 aP1 yP1 gP1)) s.heap.size = A at X ⊢
  have hl := lv_entry ([.ref hT, .int x0, .ref hP1, .int x2, .int x3]) (n := 6) (Nat.le_of_ble_eq_true rfl)
  rw [lg_entry_eq]
  generalize (lg_sl ([.ref hT, .int x0, .ref hP1, .int x2, .int x3]) ++ List.replicate (6 - (lg_sl ([.ref hT, .int x0, .ref hP1, .int x2, .int x3])).length) Slot.unset).toArray = ls at hl ⊢
  have hl : lv_has ls 6 [(0, .ref hT), (1, .int x0), (2, .ref hP1), (3, .int x2), (4, .int x3)] := hl
  unfold f_X4_putName at hF
  refine lv_iload hx hb dX4_putName_0 (lv_at hl 4 rfl) ?_
  refine lv_bipush (v := (10 : Int32)) hx hb dX4_putName_2 (by decide) ?_
  refine va_mmin hx hb (by rw [hml]; exact hl.1.symm) hown (hts _ q4_74) (hts _ q3_128) (hts _ q1_14) (hts _ q3_129) (Nat.le_of_ble_eq_true rfl) (Nat.le_of_ble_eq_true rfl) (Nat.le_of_ble_eq_true rfl) (Nat.le_of_ble_eq_true rfl) dX4_putName_4 ?_
  refine lv_istore (lv' := [(5, .int (if (10 : Int32) < x3 then (10 : Int32) else x3)), (0, .ref hT), (1, .int x0), (2, .ref hP1), (3, .int x2), (4, .int x3)]) hx hb dX4_putName_7 hl (by decide) rfl (fun ls hl => ?_)
  refine lv_iload_n hx hb dX4_putName_9 rfl (lv_at hl 4 rfl) ?_
  refine lv_if_lt (tgt := 22) hx hb dX4_putName_10 (by decide) (fun c => ?_) (fun c => ?_)
  · replace hF := iT c hF
    have hq := Option.some.inj hF
    subst hq
    exact rt_v C X dX4_putName_22
  · replace hF := iF c hF
    refine lv_iload hx hb dX4_putName_13 (lv_at hl 0 rfl) ?_
    refine lv_aload_n hx hb dX4_putName_15 rfl (lv_at hl 3 rfl) ?_
    refine va_alen (D := D.1) (v := (3000 : Int32)) hx hb X.1 X.2.1 11 10 rfl rfl rfl dX4_putName_16 ?_
    refine lv_iload_n hx hb dX4_putName_17 rfl (lv_at hl 4 rfl) ?_
    refine lv_isub hx hb dX4_putName_18 ?_
    refine lv_icmp_le (tgt := 23) hx hb dX4_putName_19 (by decide) (fun c => ?_) (fun c => ?_)
    · replace hF := iT c hF
      refine lv_aload_n hx hb dX4_putName_23 rfl (lv_at hl 3 rfl) ?_
      refine lv_iload_n hx hb dX4_putName_24 rfl (lv_at hl 4 rfl) ?_
      refine lv_aload_n hx hb dX4_putName_25 rfl (lv_at hl 1 rfl) ?_
      refine va_get (D := D.1) (ci := 4) (v := .ref (aT 1)) (C := RX4) (T := TX4) (N := 14) hx hb hts wi_X4 hown X.1 X.2.1 0 rfl rfl 1 (by decide) (hts _ q2_72) (fun _ h9 => h9) (fl_get (by decide)) dX4_putName_26 ?_
      refine lv_iload_n hx hb dX4_putName_29 rfl (lv_at hl 2 rfl) ?_
      refine lv_bipush (v := (10 : Int32)) hx hb dX4_putName_30 (by decide) ?_
      refine lv_imul hx hb dX4_putName_32 ?_
      refine lv_iload hx hb dX4_putName_33 (lv_at hl 0 rfl) ?_
      obtain ⟨h_1, hF⟩ := grd_some hF
      obtain ⟨h_2, hF⟩ := grd_some hF
      refine va_copyi (D := D.1) (f := gIA gP1 0) (g := gIA gT 1) hx hb (by rw [hml]; exact hl.1.symm) hown (hts _ q4_75) (hts _ q4_77) (hts _ q4_76) (hts _ q1_20) X.1 X.2.1 X.2.2.1 X.2.2.2.1 11 1 10 0 rfl rfl rfl rfl (by decide) (cpB_1 h_1) (cpB_2 h_1) (cpB_3 h_1) (cpB_4 h_1) (cpB_5 h_1) (fitB_ok h_2) (Nat.le_of_ble_eq_true rfl) (Nat.le_of_ble_eq_true rfl) dX4_putName_35 (fun H locs hP hD hS => ?_)
      have X : Hx D (tX4 yT ++ (tTP yP1)) A s H locs (wX4 hT aT yT (sIA gT 1 (va_cpy (gIA gP1 0) (gIA gT 1) x2.toNatClampNeg (x0 * (10 : Int32)).toNatClampNeg (if (10 : Int32) < x3 then (10 : Int32) else x3).toNatClampNeg)) ++ (wTP hP1 aP1 yP1 gP1)) := Hx_set X (set_l (by rw [wG_len (m := 11) rfl]; decide) (wG_sIA (i := 0) (k := 1) ndX4 rfl rfl)) hP hD hS
      refine lv_aload_n hx hb dX4_putName_38 rfl (lv_at hl 1 rfl) ?_
      refine va_get (D := D.1) (ci := 4) (v := .ref (aT 2)) (C := RX4) (T := TX4) (N := 14) hx hb hts wi_X4 hown X.1 X.2.1 0 rfl rfl 2 (by decide) (hts _ q2_74) (fun _ h9 => h9) (fl_get (by decide)) dX4_putName_39 ?_
      refine lv_iload_n hx hb dX4_putName_42 rfl (lv_at hl 2 rfl) ?_
      refine lv_iload hx hb dX4_putName_43 (lv_at hl 0 rfl) ?_
      obtain ⟨h_3, hF⟩ := grd_some hF
      refine va_iast (D := D.1) (f := gIA gT 2) hx hb X.1 X.2.1 X.2.2.1 X.2.2.2.1 2 1 rfl rfl (inB_ok h_3) dX4_putName_45 (fun H locs hP hD hS => ?_)
      have X : Hx D (tX4 yT ++ (tTP yP1)) A s H locs (wX4 hT aT yT (sIA (sIA gT 1 (va_cpy (gIA gP1 0) (gIA gT 1) x2.toNatClampNeg (x0 * (10 : Int32)).toNatClampNeg (if (10 : Int32) < x3 then (10 : Int32) else x3).toNatClampNeg)) 2 (upd (gIA gT 2) x0.toNatClampNeg (if (10 : Int32) < x3 then (10 : Int32) else x3))) ++ (wTP hP1 aP1 yP1 gP1)) := Hx_set X (set_l (by rw [wG_len (m := 11) rfl]; decide) (wG_sIA (i := 1) (k := 2) ndX4 rfl rfl)) hP hD hS
      refine lv_aload_n hx hb dX4_putName_46 rfl (lv_at hl 1 rfl) ?_
      refine va_get (D := D.1) (ci := 4) (v := .ref (aT 3)) (C := RX4) (T := TX4) (N := 14) hx hb hts wi_X4 hown X.1 X.2.1 0 rfl rfl 3 (by decide) (hts _ q2_77) (fun _ h9 => h9) (fl_get (by decide)) dX4_putName_47 ?_
      refine lv_iload_n hx hb dX4_putName_50 rfl (lv_at hl 2 rfl) ?_
      refine lv_iload_n hx hb dX4_putName_51 rfl (lv_at hl 4 rfl) ?_
      obtain ⟨h_4, hF⟩ := grd_some hF
      refine va_iast (D := D.1) (f := gIA gT 3) hx hb X.1 X.2.1 X.2.2.1 X.2.2.2.1 3 2 rfl rfl (inB_ok h_4) dX4_putName_52 (fun H locs hP hD hS => ?_)
      have X : Hx D (tX4 yT ++ (tTP yP1)) A s H locs (wX4 hT aT yT (sIA (sIA (sIA gT 1 (va_cpy (gIA gP1 0) (gIA gT 1) x2.toNatClampNeg (x0 * (10 : Int32)).toNatClampNeg (if (10 : Int32) < x3 then (10 : Int32) else x3).toNatClampNeg)) 2 (upd (gIA gT 2) x0.toNatClampNeg (if (10 : Int32) < x3 then (10 : Int32) else x3))) 3 (upd (gIA gT 3) x0.toNatClampNeg x2)) ++ (wTP hP1 aP1 yP1 gP1)) := Hx_set X (set_l (by rw [wG_len (m := 11) rfl]; decide) (wG_sIA (i := 2) (k := 3) ndX4 rfl rfl)) hP hD hS
      have hq := Option.some.inj hF
      subst hq
      exact rt_v C X dX4_putName_53
    · replace hF := iF c hF
      have hq := Option.some.inj hF
      subst hq
      exact rt_v C X dX4_putName_22

/-! ### X4_sortOf -/
theorem dX4_sortOf_0 : decode cX4_sortOf 0 = .ok (.iload_n 1, 1) := by decide +kernel
theorem dX4_sortOf_1 : decode cX4_sortOf 1 = .ok (.ifCond .lt 20, 3) := by decide +kernel
theorem dX4_sortOf_4 : decode cX4_sortOf 4 = .ok (.iload_n 1, 1) := by decide +kernel
theorem dX4_sortOf_5 : decode cX4_sortOf 5 = .ok (.aload_n 0, 1) := by decide +kernel
theorem dX4_sortOf_6 : decode cX4_sortOf 6 = .ok (.getfield 29, 3) := by decide +kernel
theorem dX4_sortOf_9 : decode cX4_sortOf 9 = .ok (.if_icmp .ge 12, 3) := by decide +kernel
theorem dX4_sortOf_12 : decode cX4_sortOf 12 = .ok (.aload_n 0, 1) := by decide +kernel
theorem dX4_sortOf_13 : decode cX4_sortOf 13 = .ok (.getfield 39, 3) := by decide +kernel
theorem dX4_sortOf_16 : decode cX4_sortOf 16 = .ok (.iload_n 1, 1) := by decide +kernel
theorem dX4_sortOf_17 : decode cX4_sortOf 17 = .ok (.iaload, 1) := by decide +kernel
theorem dX4_sortOf_18 : decode cX4_sortOf 18 = .ok (.goto 4, 3) := by decide +kernel
theorem dX4_sortOf_21 : decode cX4_sortOf 21 = .ok (.iconst 0, 1) := by decide +kernel
theorem dX4_sortOf_22 : decode cX4_sortOf 22 = .ok (.ireturn, 1) := by decide +kernel
abbrev R_X4_sortOf : Room := ({ frames := 0, cells := 0, slots := 0, locals := 0 } : Room)
def f_X4_sortOf (gT : Gs) (x0 : Int32) : Option (Int32) :=
  if x0 < 0 then (some (0 : Int32)) else (if (gI gT 4) ≤ x0 then (some (0 : Int32)) else (grd (inB x0 40) (some (gIA gT 7 x0.toNatClampNeg))))
set_option maxHeartbeats 4000000 in
set_option maxRecDepth 100000 in
theorem c_X4_sortOf (l : Launch) (D : Dx) (hT : Nat) (aT : Nat → Nat) (yT : Nat → ClassId) (gT : Gs) (x0 : Int32) (q : Int32) (hF : f_X4_sortOf gT x0 = some q) (sz : Nat) : Met l yX4_sortOf (ws_ yX4_sortOf cX4_sortOf 2 (some .int)) R_X4_sortOf (PC D (tX4 yT) [.ref hT, .int x0] (wX4 hT aT yT gT) sz) (QI D (va_A (wX4 hT aT yT gT) sz) (wX4 hT aT yT gT) q) 0 0 (va_A (wX4 hT aT yT gT) sz) := by
  refine Met.ofW (cc := cX4_sortOf) (maxL := 2) (ret := (some .int)) (by decide) rfl ?_
  intro p e s m args below meth c s₁ B hml hv
  obtain ⟨rfl, hsz, hP, hK, hD, hN⟩ := hv
  subst hsz
  have C : Cx p s m _ meth c cX4_sortOf (some .int) 2 RX4 lw_all := Cx_of B hml
  have X := Hx_start hP hK hD hN
  obtain ⟨hx, hb, hr, -, hown, hts, hlk⟩ := id C
  generalize va_A (wX4 hT aT yT gT) s.heap.size = A at X ⊢
  have hl := lv_entry ([.ref hT, .int x0]) (n := 2) (Nat.le_of_ble_eq_true rfl)
  rw [lg_entry_eq]
  generalize (lg_sl ([.ref hT, .int x0]) ++ List.replicate (2 - (lg_sl ([.ref hT, .int x0])).length) Slot.unset).toArray = ls at hl ⊢
  have hl : lv_has ls 2 [(0, .ref hT), (1, .int x0)] := hl
  unfold f_X4_sortOf at hF
  refine lv_iload_n hx hb dX4_sortOf_0 rfl (lv_at hl 1 rfl) ?_
  refine lv_if_lt (tgt := 21) hx hb dX4_sortOf_1 (by decide) (fun c => ?_) (fun c => ?_)
  · replace hF := iT c hF
    refine lv_iconst (v := (0 : Int32)) hx hb dX4_sortOf_21 (by decide) ?_
    have hq := Option.some.inj hF
    subst hq
    exact rt_i C X dX4_sortOf_22
  · replace hF := iF c hF
    refine lv_iload_n hx hb dX4_sortOf_4 rfl (lv_at hl 1 rfl) ?_
    refine lv_aload_n hx hb dX4_sortOf_5 rfl (lv_at hl 0 rfl) ?_
    refine va_get (D := D.1) (ci := 4) (v := .int (gI gT 4)) (C := RX4) (T := TX4) (N := 14) hx hb hts wi_X4 hown X.1 X.2.1 0 rfl rfl 4 (by decide) (hts _ q2_79) (fun _ h9 => h9) (fl_get (by decide)) dX4_sortOf_6 ?_
    refine lv_icmp_ge (tgt := 21) hx hb dX4_sortOf_9 (by decide) (fun c => ?_) (fun c => ?_)
    · replace hF := iT c hF
      refine lv_iconst (v := (0 : Int32)) hx hb dX4_sortOf_21 (by decide) ?_
      have hq := Option.some.inj hF
      subst hq
      exact rt_i C X dX4_sortOf_22
    · replace hF := iF c hF
      refine lv_aload_n hx hb dX4_sortOf_12 rfl (lv_at hl 0 rfl) ?_
      refine va_get (D := D.1) (ci := 4) (v := .ref (aT 7)) (C := RX4) (T := TX4) (N := 14) hx hb hts wi_X4 hown X.1 X.2.1 0 rfl rfl 7 (by decide) (hts _ q2_94) (fun _ h9 => h9) (fl_get (by decide)) dX4_sortOf_13 ?_
      refine lv_iload_n hx hb dX4_sortOf_16 rfl (lv_at hl 1 rfl) ?_
      obtain ⟨h_1, hF⟩ := grd_some hF
      refine va_iald (D := D.1) (f := gIA gT 7) hx hb X.1 X.2.1 4 3 rfl rfl (inB_ok h_1) dX4_sortOf_17 ?_
      refine lv_goto (tgt := 22) hx hb dX4_sortOf_18 (by decide) ?_
      have hq := Option.some.inj hF
      subst hq
      exact rt_i C X dX4_sortOf_22

/-! ### X4_isNamed -/
theorem dX4_isNamed_0 : decode cX4_isNamed 0 = .ok (.aload_n 0, 1) := by decide +kernel
theorem dX4_isNamed_1 : decode cX4_isNamed 1 = .ok (.getfield 22, 3) := by decide +kernel
theorem dX4_isNamed_4 : decode cX4_isNamed 4 = .ok (.iload_n 1, 1) := by decide +kernel
theorem dX4_isNamed_5 : decode cX4_isNamed 5 = .ok (.iaload, 1) := by decide +kernel
theorem dX4_isNamed_6 : decode cX4_isNamed 6 = .ok (.iload 4, 2) := by decide +kernel
theorem dX4_isNamed_8 : decode cX4_isNamed 8 = .ok (.if_icmp .ne 16, 3) := by decide +kernel
theorem dX4_isNamed_11 : decode cX4_isNamed 11 = .ok (.iload_n 3, 1) := by decide +kernel
theorem dX4_isNamed_12 : decode cX4_isNamed 12 = .ok (.ifCond .lt 12, 3) := by decide +kernel
theorem dX4_isNamed_15 : decode cX4_isNamed 15 = .ok (.iload 4, 2) := by decide +kernel
theorem dX4_isNamed_17 : decode cX4_isNamed 17 = .ok (.aload_n 2, 1) := by decide +kernel
theorem dX4_isNamed_18 : decode cX4_isNamed 18 = .ok (.arraylength, 1) := by decide +kernel
theorem dX4_isNamed_19 : decode cX4_isNamed 19 = .ok (.iload_n 3, 1) := by decide +kernel
theorem dX4_isNamed_20 : decode cX4_isNamed 20 = .ok (.isub, 1) := by decide +kernel
theorem dX4_isNamed_21 : decode cX4_isNamed 21 = .ok (.if_icmp .le 5, 3) := by decide +kernel
theorem dX4_isNamed_24 : decode cX4_isNamed 24 = .ok (.iconst 0, 1) := by decide +kernel
theorem dX4_isNamed_25 : decode cX4_isNamed 25 = .ok (.ireturn, 1) := by decide +kernel
theorem dX4_isNamed_26 : decode cX4_isNamed 26 = .ok (.iconst 0, 1) := by decide +kernel
theorem dX4_isNamed_27 : decode cX4_isNamed 27 = .ok (.istore 5, 2) := by decide +kernel
theorem dX4_isNamed_29 : decode cX4_isNamed 29 = .ok (.iload 5, 2) := by decide +kernel
theorem dX4_isNamed_31 : decode cX4_isNamed 31 = .ok (.iload 4, 2) := by decide +kernel
theorem dX4_isNamed_33 : decode cX4_isNamed 33 = .ok (.if_icmp .ge 30, 3) := by decide +kernel
theorem dX4_isNamed_36 : decode cX4_isNamed 36 = .ok (.aload_n 0, 1) := by decide +kernel
theorem dX4_isNamed_37 : decode cX4_isNamed 37 = .ok (.getfield 18, 3) := by decide +kernel
theorem dX4_isNamed_40 : decode cX4_isNamed 40 = .ok (.iload_n 1, 1) := by decide +kernel
theorem dX4_isNamed_41 : decode cX4_isNamed 41 = .ok (.bipush 10, 2) := by decide +kernel
theorem dX4_isNamed_43 : decode cX4_isNamed 43 = .ok (.imul, 1) := by decide +kernel
theorem dX4_isNamed_44 : decode cX4_isNamed 44 = .ok (.iload 5, 2) := by decide +kernel
theorem dX4_isNamed_46 : decode cX4_isNamed 46 = .ok (.iadd, 1) := by decide +kernel
theorem dX4_isNamed_47 : decode cX4_isNamed 47 = .ok (.baload, 1) := by decide +kernel
theorem dX4_isNamed_48 : decode cX4_isNamed 48 = .ok (.aload_n 2, 1) := by decide +kernel
theorem dX4_isNamed_49 : decode cX4_isNamed 49 = .ok (.iload_n 3, 1) := by decide +kernel
theorem dX4_isNamed_50 : decode cX4_isNamed 50 = .ok (.iload 5, 2) := by decide +kernel
theorem dX4_isNamed_52 : decode cX4_isNamed 52 = .ok (.iadd, 1) := by decide +kernel
theorem dX4_isNamed_53 : decode cX4_isNamed 53 = .ok (.baload, 1) := by decide +kernel
theorem dX4_isNamed_54 : decode cX4_isNamed 54 = .ok (.if_icmp .ne 9, 3) := by decide +kernel
theorem dX4_isNamed_57 : decode cX4_isNamed 57 = .ok (.iinc 5 1, 3) := by decide +kernel
theorem dX4_isNamed_60 : decode cX4_isNamed 60 = .ok (.goto (-31), 3) := by decide +kernel
theorem dX4_isNamed_63 : decode cX4_isNamed 63 = .ok (.iload 5, 2) := by decide +kernel
theorem dX4_isNamed_65 : decode cX4_isNamed 65 = .ok (.iload 4, 2) := by decide +kernel
theorem dX4_isNamed_67 : decode cX4_isNamed 67 = .ok (.if_icmp .ne 7, 3) := by decide +kernel
theorem dX4_isNamed_70 : decode cX4_isNamed 70 = .ok (.iconst 1, 1) := by decide +kernel
theorem dX4_isNamed_71 : decode cX4_isNamed 71 = .ok (.goto 4, 3) := by decide +kernel
theorem dX4_isNamed_74 : decode cX4_isNamed 74 = .ok (.iconst 0, 1) := by decide +kernel
theorem dX4_isNamed_75 : decode cX4_isNamed 75 = .ok (.ireturn, 1) := by decide +kernel
abbrev R_X4_isNamed : Room := ({ frames := 0, cells := 0, slots := 0, locals := 0 } : Room)
def b_X4_isNamed_63 (n : Nat) (rec : (Gs → Gs → Int32 → Int32 → Int32 → Int32 → Option (Int32))) (gT : Gs) (gP1 : Gs) (v4 : Int32) (v5 : Int32) : Option (Int32) :=
  if v5 = v4 then (some (1 : Int32)) else (some (0 : Int32))
def h_X4_isNamed_29 (n : Nat) (rec : (Gs → Gs → Int32 → Int32 → Int32 → Int32 → Option (Int32))) (gT : Gs) (gP1 : Gs) (v1 : Int32) (v3 : Int32) (v4 : Int32) (v5 : Int32) : Option (Int32) :=
  if v4 ≤ v5 then (b_X4_isNamed_63 n rec gT gP1 v4 v5) else (grd (inB ((v1 * (10 : Int32)) + v5) 600) (grd (inB (v3 + v5) 3000) (if (gIA gT 1 ((v1 * (10 : Int32)) + v5).toNatClampNeg) = (gIA gP1 0 (v3 + v5).toNatClampNeg) then (rec gT gP1 v1 v3 v4 (v5 + (1 : Int32))) else (b_X4_isNamed_63 n rec gT gP1 v4 v5))))
def L_X4_isNamed (n : Nat) : Nat → (Gs → Gs → Int32 → Int32 → Int32 → Int32 → Option (Int32))
  | 0 => ((fun _ _ _ _ _ _ => none))
  | k + 1 => (h_X4_isNamed_29 n (L_X4_isNamed n k))
def f_X4_isNamed (n : Nat) (gT : Gs) (gP1 : Gs) (x0 : Int32) (x2 : Int32) (x3 : Int32) : Option (Int32) :=
  grd (inB x0 60) (if (gIA gT 2 x0.toNatClampNeg) = x3 then (if x2 < 0 then (some (0 : Int32)) else (if x3 ≤ ((3000 : Int32) - x2) then ((L_X4_isNamed n n) gT gP1 x0 x2 x3 (0 : Int32)) else (some (0 : Int32)))) else (some (0 : Int32)))
def S_X4_isNamed_63 (l : Launch) (D : Dx) (hT : Nat) (aT : Nat → Nat) (yT : Nat → ClassId) (hP1 : Nat) (aP1 : Nat → Nat) (yP1 : Nat → ClassId) (fn : Gs → Gs → Int32 → Int32 → Option (Int32)) : Prop :=
  ∀ {p : Program} {e : Env} {s : State} {m : MethodId} {args : Array Value} {below : List Frame} {meth : Method} {c : Code} {H : Heap} {locs : List Loc} {A : Nat → Prop} {ls : Array Slot} {gT : Gs} {gP1 : Gs} {v4 : Int32} {v5 : Int32} {q : Int32}, Cx p s m args meth c cX4_isNamed (some .boolean) 6 RX4 lw_all → Hx D (tX4 yT ++ (tTP yP1)) A s H locs (wX4 hT aT yT gT ++ (wTP hP1 aP1 yP1 gP1)) → lv_has ls 6 [(4, .int v4), (5, .int v5)] → fn gT gP1 v4 v5 = some q → W p l e R_X4_isNamed s m args below meth c H locs 0 0 (MQ below (QI D A (wX4 hT aT yT gT ++ (wTP hP1 aP1 yP1 gP1)) q) args s 0 0 A) (F0 m 63 ls [])
def S_X4_isNamed_29 (l : Launch) (D : Dx) (hT : Nat) (aT : Nat → Nat) (yT : Nat → ClassId) (hP1 : Nat) (aP1 : Nat → Nat) (yP1 : Nat → ClassId) (fn : Gs → Gs → Int32 → Int32 → Int32 → Int32 → Option (Int32)) : Prop :=
  ∀ {p : Program} {e : Env} {s : State} {m : MethodId} {args : Array Value} {below : List Frame} {meth : Method} {c : Code} {H : Heap} {locs : List Loc} {A : Nat → Prop} {ls : Array Slot} {gT : Gs} {gP1 : Gs} {v1 : Int32} {v3 : Int32} {v4 : Int32} {v5 : Int32} {q : Int32}, Cx p s m args meth c cX4_isNamed (some .boolean) 6 RX4 lw_all → Hx D (tX4 yT ++ (tTP yP1)) A s H locs (wX4 hT aT yT gT ++ (wTP hP1 aP1 yP1 gP1)) → lv_has ls 6 [(0, .ref hT), (1, .int v1), (2, .ref hP1), (3, .int v3), (4, .int v4), (5, .int v5)] → fn gT gP1 v1 v3 v4 v5 = some q → W p l e R_X4_isNamed s m args below meth c H locs 0 0 (MQ below (QI D A (wX4 hT aT yT gT ++ (wTP hP1 aP1 yP1 gP1)) q) args s 0 0 A) (F0 m 29 ls [])
def SH_X4_isNamed (l : Launch) (D : Dx) (hT : Nat) (aT : Nat → Nat) (yT : Nat → ClassId) (hP1 : Nat) (aP1 : Nat → Nat) (yP1 : Nat → ClassId) (rec : (Gs → Gs → Int32 → Int32 → Int32 → Int32 → Option (Int32))) : Prop := S_X4_isNamed_29 l D hT aT yT hP1 aP1 yP1 rec
set_option maxHeartbeats 4000000 in
set_option maxRecDepth 100000 in
theorem k_X4_isNamed_63 (l : Launch) (D : Dx) (hT : Nat) (aT : Nat → Nat) (yT : Nat → ClassId) (hP1 : Nat) (aP1 : Nat → Nat) (yP1 : Nat → ClassId) (n : Nat) (rec : (Gs → Gs → Int32 → Int32 → Int32 → Int32 → Option (Int32))) (IH : SH_X4_isNamed l D hT aT yT hP1 aP1 yP1 rec) : S_X4_isNamed_63 l D hT aT yT hP1 aP1 yP1 (b_X4_isNamed_63 n rec) := by
  intro p e s m args below meth c H locs A ls gT gP1 v4 v5 q C X hl hF
  obtain ⟨hx, hb, hr, hml, hown, hts, hlk⟩ := id C
  unfold b_X4_isNamed_63 at hF
  refine lv_iload hx hb dX4_isNamed_63 (lv_at hl 1 rfl) ?_
  refine lv_iload hx hb dX4_isNamed_65 (lv_at hl 0 rfl) ?_
  refine lv_icmp_ne (tgt := 74) hx hb dX4_isNamed_67 (by decide) (fun c => ?_) (fun c => ?_)
  · replace hF := iF c hF
    refine lv_iconst (v := (0 : Int32)) hx hb dX4_isNamed_74 (by decide) ?_
    have hq := Option.some.inj hF
    subst hq
    exact rt_z (v := (0 : Int32)) C X (by decide) dX4_isNamed_75
  · replace hF := iT c hF
    refine lv_iconst (v := (1 : Int32)) hx hb dX4_isNamed_70 (by decide) ?_
    refine lv_goto (tgt := 75) hx hb dX4_isNamed_71 (by decide) ?_
    have hq := Option.some.inj hF
    subst hq
    exact rt_z (v := (1 : Int32)) C X (by decide) dX4_isNamed_75
set_option maxHeartbeats 4000000 in
set_option maxRecDepth 100000 in
theorem k_X4_isNamed_29 (l : Launch) (D : Dx) (hT : Nat) (aT : Nat → Nat) (yT : Nat → ClassId) (hP1 : Nat) (aP1 : Nat → Nat) (yP1 : Nat → ClassId) (n : Nat) (rec : (Gs → Gs → Int32 → Int32 → Int32 → Int32 → Option (Int32))) (IH : SH_X4_isNamed l D hT aT yT hP1 aP1 yP1 rec) : S_X4_isNamed_29 l D hT aT yT hP1 aP1 yP1 (h_X4_isNamed_29 n rec) := by
  intro p e s m args below meth c H locs A ls gT gP1 v1 v3 v4 v5 q C X hl hF
  obtain ⟨hx, hb, hr, hml, hown, hts, hlk⟩ := id C
  unfold h_X4_isNamed_29 at hF
  refine lv_iload hx hb dX4_isNamed_29 (lv_at hl 5 rfl) ?_
  refine lv_iload hx hb dX4_isNamed_31 (lv_at hl 4 rfl) ?_
  refine lv_icmp_ge (tgt := 63) hx hb dX4_isNamed_33 (by decide) (fun c => ?_) (fun c => ?_)
  · replace hF := iT c hF
    exact (k_X4_isNamed_63 l D hT aT yT hP1 aP1 yP1 n rec IH) C X (lv_sub hl [4, 5] rfl) hF
  · replace hF := iF c hF
    refine lv_aload_n hx hb dX4_isNamed_36 rfl (lv_at hl 0 rfl) ?_
    refine va_get (D := D.1) (ci := 4) (v := .ref (aT 1)) (C := RX4) (T := TX4) (N := 14) hx hb hts wi_X4 hown X.1 X.2.1 0 rfl rfl 1 (by decide) (hts _ q2_72) (fun _ h9 => h9) (fl_get (by decide)) dX4_isNamed_37 ?_
    refine lv_iload_n hx hb dX4_isNamed_40 rfl (lv_at hl 1 rfl) ?_
    refine lv_bipush (v := (10 : Int32)) hx hb dX4_isNamed_41 (by decide) ?_
    refine lv_imul hx hb dX4_isNamed_43 ?_
    refine lv_iload hx hb dX4_isNamed_44 (lv_at hl 5 rfl) ?_
    refine lv_iadd hx hb dX4_isNamed_46 ?_
    obtain ⟨h_2, hF⟩ := grd_some hF
    refine va_bald (D := D.1) (f := gIA gT 1) hx hb X.1 X.2.1 1 0 rfl rfl (inB_ok h_2) dX4_isNamed_47 ?_
    refine lv_aload_n hx hb dX4_isNamed_48 rfl (lv_at hl 2 rfl) ?_
    refine lv_iload_n hx hb dX4_isNamed_49 rfl (lv_at hl 3 rfl) ?_
    refine lv_iload hx hb dX4_isNamed_50 (lv_at hl 5 rfl) ?_
    refine lv_iadd hx hb dX4_isNamed_52 ?_
    obtain ⟨h_3, hF⟩ := grd_some hF
    refine va_bald (D := D.1) (f := gIA gP1 0) hx hb X.1 X.2.1 11 10 rfl rfl (inB_ok h_3) dX4_isNamed_53 ?_
    refine lv_icmp_ne (tgt := 63) hx hb dX4_isNamed_54 (by decide) (fun c => ?_) (fun c => ?_)
    · replace hF := iF c hF
      exact (k_X4_isNamed_63 l D hT aT yT hP1 aP1 yP1 n rec IH) C X (lv_sub hl [4, 5] rfl) hF
    · replace hF := iT c hF
      refine lv_iinc (v := v5 + (1 : Int32)) (lv' := [(5, .int (v5 + (1 : Int32))), (0, .ref hT), (1, .int v1), (2, .ref hP1), (3, .int v3), (4, .int v4)]) hx hb dX4_isNamed_57 hl (k := 5) rfl rfl (by decide) rfl (fun ls hl => ?_)
      refine lv_goto (tgt := 29) hx hb dX4_isNamed_60 (by decide) ?_
      exact IH C X (lv_sub hl [1, 2, 3, 4, 5, 0] rfl) hF
theorem kL_X4_isNamed (l : Launch) (D : Dx) (hT : Nat) (aT : Nat → Nat) (yT : Nat → ClassId) (hP1 : Nat) (aP1 : Nat → Nat) (yP1 : Nat → ClassId) (n : Nat) : ∀ k, SH_X4_isNamed l D hT aT yT hP1 aP1 yP1 (L_X4_isNamed n k)
  | 0 => fun _ _ _ h => by cases h
  | k + 1 => k_X4_isNamed_29 l D hT aT yT hP1 aP1 yP1 n _ (kL_X4_isNamed l D hT aT yT hP1 aP1 yP1 n k)
set_option maxHeartbeats 4000000 in
set_option maxRecDepth 100000 in
theorem c_X4_isNamed (l : Launch) (D : Dx) (hT : Nat) (aT : Nat → Nat) (yT : Nat → ClassId) (hP1 : Nat) (aP1 : Nat → Nat) (yP1 : Nat → ClassId) (n : Nat) (gT : Gs) (gP1 : Gs) (x0 : Int32) (x2 : Int32) (x3 : Int32) (q : Int32) (hF : f_X4_isNamed n gT gP1 x0 x2 x3 = some q) (sz : Nat) : Met l yX4_isNamed (ws_ yX4_isNamed cX4_isNamed 6 (some .boolean)) R_X4_isNamed (PC D (tX4 yT ++ (tTP yP1)) [.ref hT, .int x0, .ref hP1, .int x2, .int x3] (wX4 hT aT yT gT ++ (wTP hP1 aP1 yP1 gP1)) sz) (QI D (va_A (wX4 hT aT yT gT ++ (wTP hP1 aP1 yP1 gP1)) sz) (wX4 hT aT yT gT ++ (wTP hP1 aP1 yP1 gP1)) q) 0 0 (va_A (wX4 hT aT yT gT ++ (wTP hP1 aP1 yP1 gP1)) sz) := by
  refine Met.ofW (cc := cX4_isNamed) (maxL := 6) (ret := (some .boolean)) (by decide) rfl ?_
  intro p e s m args below meth c s₁ B hml hv
  obtain ⟨rfl, hsz, hP, hK, hD, hN⟩ := hv
  subst hsz
  have C : Cx p s m _ meth c cX4_isNamed (some .boolean) 6 RX4 lw_all := Cx_of B hml
  have X := Hx_start hP hK hD hN
  obtain ⟨hx, hb, hr, -, hown, hts, hlk⟩ := id C
  generalize va_A (wX4 hT aT yT gT ++ (wTP hP1 aP1 yP1 gP1)) s.heap.size = A at X ⊢
  have hl := lv_entry ([.ref hT, .int x0, .ref hP1, .int x2, .int x3]) (n := 6) (Nat.le_of_ble_eq_true rfl)
  rw [lg_entry_eq]
  generalize (lg_sl ([.ref hT, .int x0, .ref hP1, .int x2, .int x3]) ++ List.replicate (6 - (lg_sl ([.ref hT, .int x0, .ref hP1, .int x2, .int x3])).length) Slot.unset).toArray = ls at hl ⊢
  have hl : lv_has ls 6 [(0, .ref hT), (1, .int x0), (2, .ref hP1), (3, .int x2), (4, .int x3)] := hl
  unfold f_X4_isNamed at hF
  refine lv_aload_n hx hb dX4_isNamed_0 rfl (lv_at hl 0 rfl) ?_
  refine va_get (D := D.1) (ci := 4) (v := .ref (aT 2)) (C := RX4) (T := TX4) (N := 14) hx hb hts wi_X4 hown X.1 X.2.1 0 rfl rfl 2 (by decide) (hts _ q2_74) (fun _ h9 => h9) (fl_get (by decide)) dX4_isNamed_1 ?_
  refine lv_iload_n hx hb dX4_isNamed_4 rfl (lv_at hl 1 rfl) ?_
  obtain ⟨h_1, hF⟩ := grd_some hF
  refine va_iald (D := D.1) (f := gIA gT 2) hx hb X.1 X.2.1 2 1 rfl rfl (inB_ok h_1) dX4_isNamed_5 ?_
  refine lv_iload hx hb dX4_isNamed_6 (lv_at hl 4 rfl) ?_
  refine lv_icmp_ne (tgt := 24) hx hb dX4_isNamed_8 (by decide) (fun c => ?_) (fun c => ?_)
  · replace hF := iF c hF
    refine lv_iconst (v := (0 : Int32)) hx hb dX4_isNamed_24 (by decide) ?_
    have hq := Option.some.inj hF
    subst hq
    exact rt_z (v := (0 : Int32)) C X (by decide) dX4_isNamed_25
  · replace hF := iT c hF
    refine lv_iload_n hx hb dX4_isNamed_11 rfl (lv_at hl 3 rfl) ?_
    refine lv_if_lt (tgt := 24) hx hb dX4_isNamed_12 (by decide) (fun c => ?_) (fun c => ?_)
    · replace hF := iT c hF
      refine lv_iconst (v := (0 : Int32)) hx hb dX4_isNamed_24 (by decide) ?_
      have hq := Option.some.inj hF
      subst hq
      exact rt_z (v := (0 : Int32)) C X (by decide) dX4_isNamed_25
    · replace hF := iF c hF
      refine lv_iload hx hb dX4_isNamed_15 (lv_at hl 4 rfl) ?_
      refine lv_aload_n hx hb dX4_isNamed_17 rfl (lv_at hl 2 rfl) ?_
      refine va_alen (D := D.1) (v := (3000 : Int32)) hx hb X.1 X.2.1 11 10 rfl rfl rfl dX4_isNamed_18 ?_
      refine lv_iload_n hx hb dX4_isNamed_19 rfl (lv_at hl 3 rfl) ?_
      refine lv_isub hx hb dX4_isNamed_20 ?_
      refine lv_icmp_le (tgt := 26) hx hb dX4_isNamed_21 (by decide) (fun c => ?_) (fun c => ?_)
      · replace hF := iT c hF
        refine lv_iconst (v := (0 : Int32)) hx hb dX4_isNamed_26 (by decide) ?_
        refine lv_istore (lv' := [(5, .int (0 : Int32)), (0, .ref hT), (1, .int x0), (2, .ref hP1), (3, .int x2), (4, .int x3)]) hx hb dX4_isNamed_27 hl (by decide) rfl (fun ls hl => ?_)
        exact (kL_X4_isNamed l D hT aT yT hP1 aP1 yP1 n n) C X (lv_sub hl [1, 2, 3, 4, 5, 0] rfl) hF
      · replace hF := iF c hF
        refine lv_iconst (v := (0 : Int32)) hx hb dX4_isNamed_24 (by decide) ?_
        have hq := Option.some.inj hF
        subst hq
        exact rt_z (v := (0 : Int32)) C X (by decide) dX4_isNamed_25

/-! ### X4_find -/
theorem dX4_find_0 : decode cX4_find 0 = .ok (.iconst 0, 1) := by decide +kernel
theorem dX4_find_1 : decode cX4_find 1 = .ok (.istore 6, 2) := by decide +kernel
theorem dX4_find_3 : decode cX4_find 3 = .ok (.iload 6, 2) := by decide +kernel
theorem dX4_find_5 : decode cX4_find 5 = .ok (.iload 5, 2) := by decide +kernel
theorem dX4_find_7 : decode cX4_find 7 = .ok (.if_icmp .ge 27, 3) := by decide +kernel
theorem dX4_find_10 : decode cX4_find 10 = .ok (.aload_n 0, 1) := by decide +kernel
theorem dX4_find_11 : decode cX4_find 11 = .ok (.iload 4, 2) := by decide +kernel
theorem dX4_find_13 : decode cX4_find 13 = .ok (.iload 6, 2) := by decide +kernel
theorem dX4_find_15 : decode cX4_find 15 = .ok (.iadd, 1) := by decide +kernel
theorem dX4_find_16 : decode cX4_find 16 = .ok (.aload_n 1, 1) := by decide +kernel
theorem dX4_find_17 : decode cX4_find 17 = .ok (.iload_n 2, 1) := by decide +kernel
theorem dX4_find_18 : decode cX4_find 18 = .ok (.iload_n 3, 1) := by decide +kernel
theorem dX4_find_19 : decode cX4_find 19 = .ok (.invokevirtual 77, 3) := by decide +kernel
theorem dX4_find_22 : decode cX4_find 22 = .ok (.ifCond .eq 6, 3) := by decide +kernel
theorem dX4_find_25 : decode cX4_find 25 = .ok (.iload 6, 2) := by decide +kernel
theorem dX4_find_27 : decode cX4_find 27 = .ok (.ireturn, 1) := by decide +kernel
theorem dX4_find_28 : decode cX4_find 28 = .ok (.iinc 6 1, 3) := by decide +kernel
theorem dX4_find_31 : decode cX4_find 31 = .ok (.goto (-28), 3) := by decide +kernel
theorem dX4_find_34 : decode cX4_find 34 = .ok (.iconst (-1), 1) := by decide +kernel
theorem dX4_find_35 : decode cX4_find 35 = .ok (.ireturn, 1) := by decide +kernel
abbrev R_X4_find : Room := ({ frames := 1, cells := 0, slots := 0, locals := 25 } : Room)
def h_X4_find_3 (n : Nat) (rec : (Gs → Gs → Int32 → Int32 → Int32 → Int32 → Int32 → Option (Int32))) (gT : Gs) (gP0 : Gs) (v2 : Int32) (v3 : Int32) (v4 : Int32) (v5 : Int32) (v6 : Int32) : Option (Int32) :=
  if v5 ≤ v6 then (some (-1 : Int32)) else (bnd (f_X4_isNamed n gT gP0 (v4 + v6) v2 v3) (fun q_1 => if q_1 = 0 then (rec gT gP0 v2 v3 v4 v5 (v6 + (1 : Int32))) else (some v6)))
def L_X4_find (n : Nat) : Nat → (Gs → Gs → Int32 → Int32 → Int32 → Int32 → Int32 → Option (Int32))
  | 0 => ((fun _ _ _ _ _ _ _ => none))
  | k + 1 => (h_X4_find_3 n (L_X4_find n k))
def f_X4_find (n : Nat) (gT : Gs) (gP0 : Gs) (x1 : Int32) (x2 : Int32) (x3 : Int32) (x4 : Int32) : Option (Int32) :=
  (L_X4_find n n) gT gP0 x1 x2 x3 x4 (0 : Int32)
def S_X4_find_3 (l : Launch) (D : Dx) (hT : Nat) (aT : Nat → Nat) (yT : Nat → ClassId) (hP0 : Nat) (aP0 : Nat → Nat) (yP0 : Nat → ClassId) (fn : Gs → Gs → Int32 → Int32 → Int32 → Int32 → Int32 → Option (Int32)) : Prop :=
  ∀ {p : Program} {e : Env} {s : State} {m : MethodId} {args : Array Value} {below : List Frame} {meth : Method} {c : Code} {H : Heap} {locs : List Loc} {A : Nat → Prop} {ls : Array Slot} {gT : Gs} {gP0 : Gs} {v2 : Int32} {v3 : Int32} {v4 : Int32} {v5 : Int32} {v6 : Int32} {q : Int32}, Cx p s m args meth c cX4_find (some .int) 7 RX4 lw_all → Hx D (tX4 yT ++ (tTP yP0)) A s H locs (wX4 hT aT yT gT ++ (wTP hP0 aP0 yP0 gP0)) → lv_has ls 7 [(0, .ref hT), (1, .ref hP0), (2, .int v2), (3, .int v3), (4, .int v4), (5, .int v5), (6, .int v6)] → fn gT gP0 v2 v3 v4 v5 v6 = some q → W p l e R_X4_find s m args below meth c H locs 0 0 (MQ below (QI D A (wX4 hT aT yT gT ++ (wTP hP0 aP0 yP0 gP0)) q) args s 0 0 A) (F0 m 3 ls [])
def SH_X4_find (l : Launch) (D : Dx) (hT : Nat) (aT : Nat → Nat) (yT : Nat → ClassId) (hP0 : Nat) (aP0 : Nat → Nat) (yP0 : Nat → ClassId) (rec : (Gs → Gs → Int32 → Int32 → Int32 → Int32 → Int32 → Option (Int32))) : Prop := S_X4_find_3 l D hT aT yT hP0 aP0 yP0 rec
set_option maxHeartbeats 4000000 in
set_option maxRecDepth 100000 in
theorem k_X4_find_3 (l : Launch) (D : Dx) (hT : Nat) (aT : Nat → Nat) (yT : Nat → ClassId) (hP0 : Nat) (aP0 : Nat → Nat) (yP0 : Nat → ClassId) (n : Nat) (rec : (Gs → Gs → Int32 → Int32 → Int32 → Int32 → Int32 → Option (Int32))) (IH : SH_X4_find l D hT aT yT hP0 aP0 yP0 rec) : S_X4_find_3 l D hT aT yT hP0 aP0 yP0 (h_X4_find_3 n rec) := by
  intro p e s m args below meth c H locs A ls gT gP0 v2 v3 v4 v5 v6 q C X hl hF
  obtain ⟨hx, hb, hr, hml, hown, hts, hlk⟩ := id C
  unfold h_X4_find_3 at hF
  refine lv_iload hx hb dX4_find_3 (lv_at hl 6 rfl) ?_
  refine lv_iload hx hb dX4_find_5 (lv_at hl 5 rfl) ?_
  refine lv_icmp_ge (tgt := 34) hx hb dX4_find_7 (by decide) (fun c => ?_) (fun c => ?_)
  · replace hF := iT c hF
    refine lv_iconst (v := (-1 : Int32)) hx hb dX4_find_34 (by decide) ?_
    have hq := Option.some.inj hF
    subst hq
    exact rt_i C X dX4_find_35
  · replace hF := iF c hF
    refine lv_aload_n hx hb dX4_find_10 rfl (lv_at hl 0 rfl) ?_
    refine lv_iload hx hb dX4_find_11 (lv_at hl 4 rfl) ?_
    refine lv_iload hx hb dX4_find_13 (lv_at hl 6 rfl) ?_
    refine lv_iadd hx hb dX4_find_15 ?_
    refine lv_aload_n hx hb dX4_find_16 rfl (lv_at hl 1 rfl) ?_
    refine lv_iload_n hx hb dX4_find_17 rfl (lv_at hl 2 rfl) ?_
    refine lv_iload_n hx hb dX4_find_18 rfl (lv_at hl 3 rfl) ?_
    obtain ⟨q_1, hc_2, hF⟩ := bnd_some hF
    refine cV_i (As := [.int (v4 + v6), .ref hP0, .int v2, .int v3]) (rest := []) C X (c_X4_isNamed l D hT aT yT hP0 aP0 yP0 n gT gP0 (v4 + v6) v2 v3 q_1 hc_2 _) (cwV 4 hts (good_V q4_192 q4_194 q0_38 q1_7 q4_195) rfl rfl rfl (by decide +kernel) ⟨Nat.le_of_ble_eq_true rfl, Nat.le_of_ble_eq_true rfl⟩) (va_recv X.1 X.2.1 (ci := 4) (q0 := 0) rfl rfl) X.1 X.2.1 X.2.2.1 (free_all X) hl.1 rfl rfl (Nat.le_of_ble_eq_true rfl) dX4_find_19 ⟨Nat.le_of_ble_eq_true rfl, Nat.le_of_ble_eq_true rfl⟩ (fun t H1 locs1 ht hB hk hS => ?_)
    have X : Hx D (tX4 yT ++ (tTP yP0)) A s H1 locs1 (wX4 hT aT yT gT ++ (wTP hP0 aP0 yP0 gP0)) := Hx_after_all X ht hB hS
    clear hk hS ht hB
    generalize H1 = H at X ⊢
    generalize locs1 = locs at X ⊢
    refine lv_if_eq (tgt := 28) hx hb dX4_find_22 (by decide) (fun c => ?_) (fun c => ?_)
    · replace hF := iT c hF
      refine lv_iinc (v := v6 + (1 : Int32)) (lv' := [(6, .int (v6 + (1 : Int32))), (0, .ref hT), (1, .ref hP0), (2, .int v2), (3, .int v3), (4, .int v4), (5, .int v5)]) hx hb dX4_find_28 hl (k := 6) rfl rfl (by decide) rfl (fun ls hl => ?_)
      refine lv_goto (tgt := 3) hx hb dX4_find_31 (by decide) ?_
      exact IH C X (lv_sub hl [1, 2, 3, 4, 5, 6, 0] rfl) hF
    · replace hF := iF c hF
      refine lv_iload hx hb dX4_find_25 (lv_at hl 6 rfl) ?_
      have hq := Option.some.inj hF
      subst hq
      exact rt_i C X dX4_find_27
theorem kL_X4_find (l : Launch) (D : Dx) (hT : Nat) (aT : Nat → Nat) (yT : Nat → ClassId) (hP0 : Nat) (aP0 : Nat → Nat) (yP0 : Nat → ClassId) (n : Nat) : ∀ k, SH_X4_find l D hT aT yT hP0 aP0 yP0 (L_X4_find n k)
  | 0 => fun _ _ _ h => by cases h
  | k + 1 => k_X4_find_3 l D hT aT yT hP0 aP0 yP0 n _ (kL_X4_find l D hT aT yT hP0 aP0 yP0 n k)
set_option maxHeartbeats 4000000 in
set_option maxRecDepth 100000 in
theorem c_X4_find (l : Launch) (D : Dx) (hT : Nat) (aT : Nat → Nat) (yT : Nat → ClassId) (hP0 : Nat) (aP0 : Nat → Nat) (yP0 : Nat → ClassId) (n : Nat) (gT : Gs) (gP0 : Gs) (x1 : Int32) (x2 : Int32) (x3 : Int32) (x4 : Int32) (q : Int32) (hF : f_X4_find n gT gP0 x1 x2 x3 x4 = some q) (sz : Nat) : Met l yX4_find (ws_ yX4_find cX4_find 7 (some .int)) R_X4_find (PC D (tX4 yT ++ (tTP yP0)) [.ref hT, .ref hP0, .int x1, .int x2, .int x3, .int x4] (wX4 hT aT yT gT ++ (wTP hP0 aP0 yP0 gP0)) sz) (QI D (va_A (wX4 hT aT yT gT ++ (wTP hP0 aP0 yP0 gP0)) sz) (wX4 hT aT yT gT ++ (wTP hP0 aP0 yP0 gP0)) q) 0 0 (va_A (wX4 hT aT yT gT ++ (wTP hP0 aP0 yP0 gP0)) sz) := by
  refine Met.ofW (cc := cX4_find) (maxL := 7) (ret := (some .int)) (by decide) rfl ?_
  intro p e s m args below meth c s₁ B hml hv
  obtain ⟨rfl, hsz, hP, hK, hD, hN⟩ := hv
  subst hsz
  have C : Cx p s m _ meth c cX4_find (some .int) 7 RX4 lw_all := Cx_of B hml
  have X := Hx_start hP hK hD hN
  obtain ⟨hx, hb, hr, -, hown, hts, hlk⟩ := id C
  generalize va_A (wX4 hT aT yT gT ++ (wTP hP0 aP0 yP0 gP0)) s.heap.size = A at X ⊢
  have hl := lv_entry ([.ref hT, .ref hP0, .int x1, .int x2, .int x3, .int x4]) (n := 7) (Nat.le_of_ble_eq_true rfl)
  rw [lg_entry_eq]
  generalize (lg_sl ([.ref hT, .ref hP0, .int x1, .int x2, .int x3, .int x4]) ++ List.replicate (7 - (lg_sl ([.ref hT, .ref hP0, .int x1, .int x2, .int x3, .int x4])).length) Slot.unset).toArray = ls at hl ⊢
  have hl : lv_has ls 7 [(0, .ref hT), (1, .ref hP0), (2, .int x1), (3, .int x2), (4, .int x3), (5, .int x4)] := hl
  unfold f_X4_find at hF
  refine lv_iconst (v := (0 : Int32)) hx hb dX4_find_0 (by decide) ?_
  refine lv_istore (lv' := [(6, .int (0 : Int32)), (0, .ref hT), (1, .ref hP0), (2, .int x1), (3, .int x2), (4, .int x3), (5, .int x4)]) hx hb dX4_find_1 hl (by decide) rfl (fun ls hl => ?_)
  exact (kL_X4_find l D hT aT yT hP0 aP0 yP0 n n) C X (lv_sub hl [1, 2, 3, 4, 5, 6, 0] rfl) hF

/-! ### X2_refuse -/
theorem dX2_refuse_0 : decode cX2_refuse 0 = .ok (.aload_n 0, 1) := by decide +kernel
theorem dX2_refuse_1 : decode cX2_refuse 1 = .ok (.getfield 9, 3) := by decide +kernel
theorem dX2_refuse_4 : decode cX2_refuse 4 = .ok (.iconst (-1), 1) := by decide +kernel
theorem dX2_refuse_5 : decode cX2_refuse 5 = .ok (.if_icmp .eq 11, 3) := by decide +kernel
theorem dX2_refuse_8 : decode cX2_refuse 8 = .ok (.iload_n 1, 1) := by decide +kernel
theorem dX2_refuse_9 : decode cX2_refuse 9 = .ok (.aload_n 0, 1) := by decide +kernel
theorem dX2_refuse_10 : decode cX2_refuse 10 = .ok (.getfield 9, 3) := by decide +kernel
theorem dX2_refuse_13 : decode cX2_refuse 13 = .ok (.if_icmp .ge 8, 3) := by decide +kernel
theorem dX2_refuse_16 : decode cX2_refuse 16 = .ok (.aload_n 0, 1) := by decide +kernel
theorem dX2_refuse_17 : decode cX2_refuse 17 = .ok (.iload_n 1, 1) := by decide +kernel
theorem dX2_refuse_18 : decode cX2_refuse 18 = .ok (.putfield 9, 3) := by decide +kernel
theorem dX2_refuse_21 : decode cX2_refuse 21 = .ok (.return_, 1) := by decide +kernel
abbrev R_X2_refuse : Room := ({ frames := 0, cells := 0, slots := 0, locals := 0 } : Room)
def b_X2_refuse_16 (gT : Gs) (v1 : Int32) : Option (Gs) :=
  some (sI gT 1 v1)
def f_X2_refuse (gT : Gs) (x0 : Int32) : Option (Gs) :=
  if (gI gT 1) = (-1 : Int32) then (b_X2_refuse_16 gT x0) else (if (gI gT 1) ≤ x0 then (some gT) else (b_X2_refuse_16 gT x0))
def S_X2_refuse_16 (l : Launch) (D : Dx) (hT : Nat) (aT : Nat → Nat) (yT : Nat → ClassId) (fn : Gs → Int32 → Option (Gs)) : Prop :=
  ∀ {p : Program} {e : Env} {s : State} {m : MethodId} {args : Array Value} {below : List Frame} {meth : Method} {c : Code} {H : Heap} {locs : List Loc} {A : Nat → Prop} {ls : Array Slot} {gT : Gs} {v1 : Int32} {q : Gs}, Cx p s m args meth c cX2_refuse none 2 RX2 lw_all → Hx D (tX2 yT) A s H locs (wX2 hT aT yT gT) → lv_has ls 2 [(0, .ref hT), (1, .int v1)] → fn gT v1 = some q → W p l e R_X2_refuse s m args below meth c H locs 0 0 (MQ below (QV D A (wX2 hT aT yT q)) args s 0 0 A) (F0 m 16 ls [])
set_option maxHeartbeats 4000000 in
set_option maxRecDepth 100000 in
theorem k_X2_refuse_16 (l : Launch) (D : Dx) (hT : Nat) (aT : Nat → Nat) (yT : Nat → ClassId) : S_X2_refuse_16 l D hT aT yT (b_X2_refuse_16) := by
  intro p e s m args below meth c H locs A ls gT v1 q C X hl hF
  obtain ⟨hx, hb, hr, hml, hown, hts, hlk⟩ := id C
  unfold b_X2_refuse_16 at hF
  refine lv_aload_n hx hb dX2_refuse_16 rfl (lv_at hl 0 rfl) ?_
  refine lv_iload_n hx hb dX2_refuse_17 rfl (lv_at hl 1 rfl) ?_
  refine va_put (D := D.1) (ci := 2) (v := .int v1) (ty := .int) (C := RX2) (T := TX2) (N := 2) hx hb hts wi_X2 tyX2 tyX2_ok nmX2 hown X.1 X.2.1 X.2.2.1 X.2.2.2.1 0 rfl rfl 1 (by decide) (hts _ q3_45) (fun _ h9 => h9) rfl (by decide +kernel) rfl rfl (by rw [List.length_map, List.length_range]; decide) dX2_refuse_18 (fun H locs hP hD hS => ?_)
  have X : Hx D (tX2 yT) A s H locs (wX2 hT aT yT (sI gT 1 v1)) := Hx_set X (wG_sI (k := 1) rfl) hP hD hS
  have hq := Option.some.inj hF
  subst hq
  exact rt_v C X dX2_refuse_21
set_option maxHeartbeats 4000000 in
set_option maxRecDepth 100000 in
theorem c_X2_refuse (l : Launch) (D : Dx) (hT : Nat) (aT : Nat → Nat) (yT : Nat → ClassId) (gT : Gs) (x0 : Int32) (q : Gs) (hF : f_X2_refuse gT x0 = some q) (sz : Nat) : Met l yX2_refuse (ws_ yX2_refuse cX2_refuse 2 none) R_X2_refuse (PC D (tX2 yT) [.ref hT, .int x0] (wX2 hT aT yT gT) sz) (QV D (va_A (wX2 hT aT yT gT) sz) (wX2 hT aT yT q)) 0 0 (va_A (wX2 hT aT yT gT) sz) := by
  refine Met.ofW (cc := cX2_refuse) (maxL := 2) (ret := none) (by decide) rfl ?_
  intro p e s m args below meth c s₁ B hml hv
  obtain ⟨rfl, hsz, hP, hK, hD, hN⟩ := hv
  subst hsz
  have C : Cx p s m _ meth c cX2_refuse none 2 RX2 lw_all := Cx_of B hml
  have X := Hx_start hP hK hD hN
  obtain ⟨hx, hb, hr, -, hown, hts, hlk⟩ := id C
  generalize va_A (wX2 hT aT yT gT) s.heap.size = A at X ⊢
  have hl := lv_entry ([.ref hT, .int x0]) (n := 2) (Nat.le_of_ble_eq_true rfl)
  rw [lg_entry_eq]
  generalize (lg_sl ([.ref hT, .int x0]) ++ List.replicate (2 - (lg_sl ([.ref hT, .int x0])).length) Slot.unset).toArray = ls at hl ⊢
  have hl : lv_has ls 2 [(0, .ref hT), (1, .int x0)] := hl
  unfold f_X2_refuse at hF
  refine lv_aload_n hx hb dX2_refuse_0 rfl (lv_at hl 0 rfl) ?_
  refine va_get (D := D.1) (ci := 2) (v := .int (gI gT 1)) (C := RX2) (T := TX2) (N := 2) hx hb hts wi_X2 hown X.1 X.2.1 0 rfl rfl 1 (by decide) (hts _ q3_45) (fun _ h9 => h9) (fl_get (by decide)) dX2_refuse_1 ?_
  refine lv_iconst (v := (-1 : Int32)) hx hb dX2_refuse_4 (by decide) ?_
  refine lv_icmp_eq (tgt := 16) hx hb dX2_refuse_5 (by decide) (fun c => ?_) (fun c => ?_)
  · replace hF := iT c hF
    exact (k_X2_refuse_16 l D hT aT yT) C X (lv_sub hl [0, 1] rfl) hF
  · replace hF := iF c hF
    refine lv_iload_n hx hb dX2_refuse_8 rfl (lv_at hl 1 rfl) ?_
    refine lv_aload_n hx hb dX2_refuse_9 rfl (lv_at hl 0 rfl) ?_
    refine va_get (D := D.1) (ci := 2) (v := .int (gI gT 1)) (C := RX2) (T := TX2) (N := 2) hx hb hts wi_X2 hown X.1 X.2.1 0 rfl rfl 1 (by decide) (hts _ q3_45) (fun _ h9 => h9) (fl_get (by decide)) dX2_refuse_10 ?_
    refine lv_icmp_ge (tgt := 21) hx hb dX2_refuse_13 (by decide) (fun c => ?_) (fun c => ?_)
    · replace hF := iT c hF
      have hq := Option.some.inj hF
      subst hq
      exact rt_v C X dX2_refuse_21
    · replace hF := iF c hF
      exact (k_X2_refuse_16 l D hT aT yT) C X (lv_sub hl [0, 1] rfl) hF

/-! ### X2_isToldAhead -/
theorem dX2_isToldAhead_0 : decode cX2_isToldAhead 0 = .ok (.aload_n 1, 1) := by decide +kernel
theorem dX2_isToldAhead_1 : decode cX2_isToldAhead 1 = .ok (.getfield 46, 3) := by decide +kernel
theorem dX2_isToldAhead_4 : decode cX2_isToldAhead 4 = .ok (.iload_n 2, 1) := by decide +kernel
theorem dX2_isToldAhead_5 : decode cX2_isToldAhead 5 = .ok (.iaload, 1) := by decide +kernel
theorem dX2_isToldAhead_6 : decode cX2_isToldAhead 6 = .ok (.istore 5, 2) := by decide +kernel
theorem dX2_isToldAhead_8 : decode cX2_isToldAhead 8 = .ok (.aload_n 1, 1) := by decide +kernel
theorem dX2_isToldAhead_9 : decode cX2_isToldAhead 9 = .ok (.aload_n 0, 1) := by decide +kernel
theorem dX2_isToldAhead_10 : decode cX2_isToldAhead 10 = .ok (.getfield 15, 3) := by decide +kernel
theorem dX2_isToldAhead_13 : decode cX2_isToldAhead 13 = .ok (.iload 5, 2) := by decide +kernel
theorem dX2_isToldAhead_15 : decode cX2_isToldAhead 15 = .ok (.aload_n 1, 1) := by decide +kernel
theorem dX2_isToldAhead_16 : decode cX2_isToldAhead 16 = .ok (.getfield 54, 3) := by decide +kernel
theorem dX2_isToldAhead_19 : decode cX2_isToldAhead 19 = .ok (.iload_n 2, 1) := by decide +kernel
theorem dX2_isToldAhead_20 : decode cX2_isToldAhead 20 = .ok (.iaload, 1) := by decide +kernel
theorem dX2_isToldAhead_21 : decode cX2_isToldAhead 21 = .ok (.iload_n 3, 1) := by decide +kernel
theorem dX2_isToldAhead_22 : decode cX2_isToldAhead 22 = .ok (.iload 4, 2) := by decide +kernel
theorem dX2_isToldAhead_24 : decode cX2_isToldAhead 24 = .ok (.invokevirtual 57, 3) := by decide +kernel
theorem dX2_isToldAhead_27 : decode cX2_isToldAhead 27 = .ok (.istore 6, 2) := by decide +kernel
theorem dX2_isToldAhead_29 : decode cX2_isToldAhead 29 = .ok (.iload 6, 2) := by decide +kernel
theorem dX2_isToldAhead_31 : decode cX2_isToldAhead 31 = .ok (.iconst (-1), 1) := by decide +kernel
theorem dX2_isToldAhead_32 : decode cX2_isToldAhead 32 = .ok (.if_icmp .eq 21, 3) := by decide +kernel
theorem dX2_isToldAhead_35 : decode cX2_isToldAhead 35 = .ok (.aload_n 1, 1) := by decide +kernel
theorem dX2_isToldAhead_36 : decode cX2_isToldAhead 36 = .ok (.getfield 46, 3) := by decide +kernel
theorem dX2_isToldAhead_39 : decode cX2_isToldAhead 39 = .ok (.iload_n 3, 1) := by decide +kernel
theorem dX2_isToldAhead_40 : decode cX2_isToldAhead 40 = .ok (.iload 6, 2) := by decide +kernel
theorem dX2_isToldAhead_42 : decode cX2_isToldAhead 42 = .ok (.iadd, 1) := by decide +kernel
theorem dX2_isToldAhead_43 : decode cX2_isToldAhead 43 = .ok (.iaload, 1) := by decide +kernel
theorem dX2_isToldAhead_44 : decode cX2_isToldAhead 44 = .ok (.iload 5, 2) := by decide +kernel
theorem dX2_isToldAhead_46 : decode cX2_isToldAhead 46 = .ok (.if_icmp .ge 7, 3) := by decide +kernel
theorem dX2_isToldAhead_49 : decode cX2_isToldAhead 49 = .ok (.iconst 1, 1) := by decide +kernel
theorem dX2_isToldAhead_50 : decode cX2_isToldAhead 50 = .ok (.goto 4, 3) := by decide +kernel
theorem dX2_isToldAhead_53 : decode cX2_isToldAhead 53 = .ok (.iconst 0, 1) := by decide +kernel
theorem dX2_isToldAhead_54 : decode cX2_isToldAhead 54 = .ok (.ireturn, 1) := by decide +kernel
abbrev R_X2_isToldAhead : Room := ({ frames := 2, cells := 0, slots := 0, locals := 51 } : Room)
def f_X2_isToldAhead (n : Nat) (gT : Gs) (gT_0 : Gs) (gP0 : Gs) (x1 : Int32) (x2 : Int32) (x3 : Int32) : Option (Int32) :=
  grd (inB x1 60) (grd (inB x1 60) (bnd (f_X4_find n gP0 gT_0 (gIA gP0 3 x1.toNatClampNeg) (gIA gP0 2 x1.toNatClampNeg) x2 x3) (fun q_3 => if q_3 = (-1 : Int32) then (some (0 : Int32)) else (grd (inB (x2 + q_3) 60) (if (gIA gP0 3 x1.toNatClampNeg) ≤ (gIA gP0 3 (x2 + q_3).toNatClampNeg) then (some (0 : Int32)) else (some (1 : Int32)))))))
set_option maxHeartbeats 4000000 in
set_option maxRecDepth 100000 in
theorem c_X2_isToldAhead (l : Launch) (D : Dx) (hT : Nat) (aT : Nat → Nat) (yT : Nat → ClassId) (aT_0 : Nat → Nat) (yT_0 : Nat → ClassId) (hP0 : Nat) (aP0 : Nat → Nat) (yP0 : Nat → ClassId) (n : Nat) (gT : Gs) (gT_0 : Gs) (gP0 : Gs) (x1 : Int32) (x2 : Int32) (x3 : Int32) (q : Int32) (hF : f_X2_isToldAhead n gT gT_0 gP0 x1 x2 x3 = some q) (sz : Nat) : Met l yX2_isToldAhead (ws_ yX2_isToldAhead cX2_isToldAhead 7 (some .boolean)) R_X2_isToldAhead (PC D (tX2 yT ++ (tTP yT_0 ++ (tX4 yP0))) [.ref hT, .ref hP0, .int x1, .int x2, .int x3] (wX2 hT aT yT gT ++ (wTP (aT 0) aT_0 yT_0 gT_0 ++ (wX4 hP0 aP0 yP0 gP0))) sz) (QI D (va_A (wX2 hT aT yT gT ++ (wTP (aT 0) aT_0 yT_0 gT_0 ++ (wX4 hP0 aP0 yP0 gP0))) sz) (wX2 hT aT yT gT ++ (wTP (aT 0) aT_0 yT_0 gT_0 ++ (wX4 hP0 aP0 yP0 gP0))) q) 0 0 (va_A (wX2 hT aT yT gT ++ (wTP (aT 0) aT_0 yT_0 gT_0 ++ (wX4 hP0 aP0 yP0 gP0))) sz) := by
  refine Met.ofW (cc := cX2_isToldAhead) (maxL := 7) (ret := (some .boolean)) (by decide) rfl ?_
  intro p e s m args below meth c s₁ B hml hv
  obtain ⟨rfl, hsz, hP, hK, hD, hN⟩ := hv
  subst hsz
  have C : Cx p s m _ meth c cX2_isToldAhead (some .boolean) 7 RX2 lw_all := Cx_of B hml
  have X := Hx_start hP hK hD hN
  obtain ⟨hx, hb, hr, -, hown, hts, hlk⟩ := id C
  generalize va_A (wX2 hT aT yT gT ++ (wTP (aT 0) aT_0 yT_0 gT_0 ++ (wX4 hP0 aP0 yP0 gP0))) s.heap.size = A at X ⊢
  have hl := lv_entry ([.ref hT, .ref hP0, .int x1, .int x2, .int x3]) (n := 7) (Nat.le_of_ble_eq_true rfl)
  rw [lg_entry_eq]
  generalize (lg_sl ([.ref hT, .ref hP0, .int x1, .int x2, .int x3]) ++ List.replicate (7 - (lg_sl ([.ref hT, .ref hP0, .int x1, .int x2, .int x3])).length) Slot.unset).toArray = ls at hl ⊢
  have hl : lv_has ls 7 [(0, .ref hT), (1, .ref hP0), (2, .int x1), (3, .int x2), (4, .int x3)] := hl
  unfold f_X2_isToldAhead at hF
  refine lv_aload_n hx hb dX2_isToldAhead_0 rfl (lv_at hl 1 rfl) ?_
  refine va_getN (D := D.1) (ci := 4) (v := .ref (aP0 3)) (C := RX4) (T := TX4) (N := 14) hx hb hts wi_X4 hown X.1 X.2.1 2 rfl rfl 3 (by decide) (X.2.2.2.2.2.1.use q2_78 rfl) (fun _ h9 => h9) (fl_get (by decide)) dX2_isToldAhead_1 ?_
  refine lv_iload_n hx hb dX2_isToldAhead_4 rfl (lv_at hl 2 rfl) ?_
  obtain ⟨h_1, hF⟩ := grd_some hF
  refine va_iald (D := D.1) (f := gIA gP0 3) hx hb X.1 X.2.1 5 3 rfl rfl (inB_ok h_1) dX2_isToldAhead_5 ?_
  refine lv_istore (lv' := [(5, .int (gIA gP0 3 x1.toNatClampNeg)), (0, .ref hT), (1, .ref hP0), (2, .int x1), (3, .int x2), (4, .int x3)]) hx hb dX2_isToldAhead_6 hl (by decide) rfl (fun ls hl => ?_)
  refine lv_aload_n hx hb dX2_isToldAhead_8 rfl (lv_at hl 2 rfl) ?_
  refine lv_aload_n hx hb dX2_isToldAhead_9 rfl (lv_at hl 1 rfl) ?_
  refine va_get (D := D.1) (ci := 2) (v := .ref (aT 0)) (C := RX2) (T := TX2) (N := 2) hx hb hts wi_X2 hown X.1 X.2.1 0 rfl rfl 0 (by decide) (hts _ q3_44) (fun _ h9 => h9) (fl_get (by decide)) dX2_isToldAhead_10 ?_
  refine lv_iload hx hb dX2_isToldAhead_13 (lv_at hl 0 rfl) ?_
  refine lv_aload_n hx hb dX2_isToldAhead_15 rfl (lv_at hl 2 rfl) ?_
  refine va_getN (D := D.1) (ci := 4) (v := .ref (aP0 2)) (C := RX4) (T := TX4) (N := 14) hx hb hts wi_X4 hown X.1 X.2.1 2 rfl rfl 2 (by decide) (X.2.2.2.2.2.1.use q2_75 rfl) (fun _ h9 => h9) (fl_get (by decide)) dX2_isToldAhead_16 ?_
  refine lv_iload_n hx hb dX2_isToldAhead_19 rfl (lv_at hl 3 rfl) ?_
  obtain ⟨h_2, hF⟩ := grd_some hF
  refine va_iald (D := D.1) (f := gIA gP0 2) hx hb X.1 X.2.1 4 2 rfl rfl (inB_ok h_2) dX2_isToldAhead_20 ?_
  refine lv_iload_n hx hb dX2_isToldAhead_21 rfl (lv_at hl 4 rfl) ?_
  refine lv_iload hx hb dX2_isToldAhead_22 (lv_at hl 5 rfl) ?_
  obtain ⟨q_3, hc_4, hF⟩ := bnd_some hF
  refine cV_i (As := [.ref (aT 0), .int (gIA gP0 3 x1.toNatClampNeg), .int (gIA gP0 2 x1.toNatClampNeg), .int x2, .int x3]) (rest := []) C X (c_X4_find l D hP0 aP0 yP0 (aT 0) aT_0 yT_0 n gP0 gT_0 (gIA gP0 3 x1.toNatClampNeg) (gIA gP0 2 x1.toNatClampNeg) x2 x3 q_3 hc_4 _) (cwV 5 hts (good_V q4_188 q4_189 q4_190 q1_7 q4_191) rfl rfl rfl (by decide +kernel) ⟨Nat.le_of_ble_eq_true rfl, Nat.le_of_ble_eq_true rfl⟩) (va_recv X.1 X.2.1 (ci := 4) (q0 := 2) rfl rfl) (X.1.sub (tys' := tX4 yP0 ++ (tTP yT_0)) [1, 2, 3, 4, 5, 6, 7, 8, 9, 10, 0] rfl) (X.2.1.sub (ws' := wX4 hP0 aP0 yP0 gP0 ++ (wTP (aT 0) aT_0 yT_0 gT_0)) [2, 3, 4, 5, 6, 7, 8, 9, 10, 11, 12, 1] rfl) (X.2.2.1.sub (ws' := wX4 hP0 aP0 yP0 gP0 ++ (wTP (aT 0) aT_0 yT_0 gT_0)) [2, 3, 4, 5, 6, 7, 8, 9, 10, 11, 12, 1] (by decide) rfl) (free_of (wC := wX4 hP0 aP0 yP0 gP0 ++ (wTP (aT 0) aT_0 yT_0 gT_0)) (isC := [2, 3, 4, 5, 6, 7, 8, 9, 10, 11, 12, 1]) X rfl) hl.1 rfl rfl (Nat.le_of_ble_eq_true rfl) dX2_isToldAhead_24 ⟨Nat.le_of_ble_eq_true rfl, Nat.le_of_ble_eq_true rfl⟩ (fun t H1 locs1 ht hB hk hS => ?_)
  have X : Hx D (tX2 yT ++ (tTP yT_0 ++ (tX4 yP0))) A s H1 locs1 (wX2 hT aT yT gT ++ (wTP (aT 0) aT_0 yT_0 gT_0 ++ (wX4 hP0 aP0 yP0 gP0))) := Hx_after (isC := [2, 3, 4, 5, 6, 7, 8, 9, 10, 11, 12, 1]) (isR := [0]) (pm := [0, 12, 1, 2, 3, 4, 5, 6, 7, 8, 9, 10, 11]) (wr := wX2 hT aT yT gT) X ⟨rfl, rfl, by decide, by decide, rfl, by decide⟩ ht hB hk hS
  clear hk hS ht hB
  generalize H1 = H at X ⊢
  generalize locs1 = locs at X ⊢
  refine lv_istore (lv' := [(6, .int q_3), (5, .int (gIA gP0 3 x1.toNatClampNeg)), (0, .ref hT), (1, .ref hP0), (2, .int x1), (3, .int x2), (4, .int x3)]) hx hb dX2_isToldAhead_27 hl (by decide) rfl (fun ls hl => ?_)
  refine lv_iload hx hb dX2_isToldAhead_29 (lv_at hl 0 rfl) ?_
  refine lv_iconst (v := (-1 : Int32)) hx hb dX2_isToldAhead_31 (by decide) ?_
  refine lv_icmp_eq (tgt := 53) hx hb dX2_isToldAhead_32 (by decide) (fun c => ?_) (fun c => ?_)
  · replace hF := iT c hF
    refine lv_iconst (v := (0 : Int32)) hx hb dX2_isToldAhead_53 (by decide) ?_
    have hq := Option.some.inj hF
    subst hq
    exact rt_z (v := (0 : Int32)) C X (by decide) dX2_isToldAhead_54
  · replace hF := iF c hF
    refine lv_aload_n hx hb dX2_isToldAhead_35 rfl (lv_at hl 3 rfl) ?_
    refine va_getN (D := D.1) (ci := 4) (v := .ref (aP0 3)) (C := RX4) (T := TX4) (N := 14) hx hb hts wi_X4 hown X.1 X.2.1 2 rfl rfl 3 (by decide) (X.2.2.2.2.2.1.use q2_78 rfl) (fun _ h9 => h9) (fl_get (by decide)) dX2_isToldAhead_36 ?_
    refine lv_iload_n hx hb dX2_isToldAhead_39 rfl (lv_at hl 5 rfl) ?_
    refine lv_iload hx hb dX2_isToldAhead_40 (lv_at hl 0 rfl) ?_
    refine lv_iadd hx hb dX2_isToldAhead_42 ?_
    obtain ⟨h_5, hF⟩ := grd_some hF
    refine va_iald (D := D.1) (f := gIA gP0 3) hx hb X.1 X.2.1 5 3 rfl rfl (inB_ok h_5) dX2_isToldAhead_43 ?_
    refine lv_iload hx hb dX2_isToldAhead_44 (lv_at hl 1 rfl) ?_
    refine lv_icmp_ge (tgt := 53) hx hb dX2_isToldAhead_46 (by decide) (fun c => ?_) (fun c => ?_)
    · replace hF := iT c hF
      refine lv_iconst (v := (0 : Int32)) hx hb dX2_isToldAhead_53 (by decide) ?_
      have hq := Option.some.inj hF
      subst hq
      exact rt_z (v := (0 : Int32)) C X (by decide) dX2_isToldAhead_54
    · replace hF := iF c hF
      refine lv_iconst (v := (1 : Int32)) hx hb dX2_isToldAhead_49 (by decide) ?_
      refine lv_goto (tgt := 54) hx hb dX2_isToldAhead_50 (by decide) ?_
      have hq := Option.some.inj hF
      subst hq
      exact rt_z (v := (1 : Int32)) C X (by decide) dX2_isToldAhead_54

/-! ### X2_compareAll -/
theorem dX2_compareAll_0 : decode cX2_compareAll 0 = .ok (.iload_n 2, 1) := by decide +kernel
theorem dX2_compareAll_1 : decode cX2_compareAll 1 = .ok (.istore 4, 2) := by decide +kernel
theorem dX2_compareAll_3 : decode cX2_compareAll 3 = .ok (.iload 4, 2) := by decide +kernel
theorem dX2_compareAll_5 : decode cX2_compareAll 5 = .ok (.iload_n 2, 1) := by decide +kernel
theorem dX2_compareAll_6 : decode cX2_compareAll 6 = .ok (.iload_n 3, 1) := by decide +kernel
theorem dX2_compareAll_7 : decode cX2_compareAll 7 = .ok (.iadd, 1) := by decide +kernel
theorem dX2_compareAll_8 : decode cX2_compareAll 8 = .ok (.if_icmp .ge 67, 3) := by decide +kernel
theorem dX2_compareAll_11 : decode cX2_compareAll 11 = .ok (.aload_n 0, 1) := by decide +kernel
theorem dX2_compareAll_12 : decode cX2_compareAll 12 = .ok (.aload_n 1, 1) := by decide +kernel
theorem dX2_compareAll_13 : decode cX2_compareAll 13 = .ok (.iload 4, 2) := by decide +kernel
theorem dX2_compareAll_15 : decode cX2_compareAll 15 = .ok (.iconst 0, 1) := by decide +kernel
theorem dX2_compareAll_16 : decode cX2_compareAll 16 = .ok (.aload_n 1, 1) := by decide +kernel
theorem dX2_compareAll_17 : decode cX2_compareAll 17 = .ok (.getfield 19, 3) := by decide +kernel
theorem dX2_compareAll_20 : decode cX2_compareAll 20 = .ok (.invokevirtual 42, 3) := by decide +kernel
theorem dX2_compareAll_23 : decode cX2_compareAll 23 = .ok (.ifCond .ne 35, 3) := by decide +kernel
theorem dX2_compareAll_26 : decode cX2_compareAll 26 = .ok (.aload_n 0, 1) := by decide +kernel
theorem dX2_compareAll_27 : decode cX2_compareAll 27 = .ok (.aload_n 1, 1) := by decide +kernel
theorem dX2_compareAll_28 : decode cX2_compareAll 28 = .ok (.iload 4, 2) := by decide +kernel
theorem dX2_compareAll_30 : decode cX2_compareAll 30 = .ok (.bipush 40, 2) := by decide +kernel
theorem dX2_compareAll_32 : decode cX2_compareAll 32 = .ok (.aload_n 1, 1) := by decide +kernel
theorem dX2_compareAll_33 : decode cX2_compareAll 33 = .ok (.getfield 28, 3) := by decide +kernel
theorem dX2_compareAll_36 : decode cX2_compareAll 36 = .ok (.invokevirtual 42, 3) := by decide +kernel
theorem dX2_compareAll_39 : decode cX2_compareAll 39 = .ok (.ifCond .ne 19, 3) := by decide +kernel
theorem dX2_compareAll_42 : decode cX2_compareAll 42 = .ok (.aload_n 0, 1) := by decide +kernel
theorem dX2_compareAll_43 : decode cX2_compareAll 43 = .ok (.aload_n 1, 1) := by decide +kernel
theorem dX2_compareAll_44 : decode cX2_compareAll 44 = .ok (.iload 4, 2) := by decide +kernel
theorem dX2_compareAll_46 : decode cX2_compareAll 46 = .ok (.bipush 52, 2) := by decide +kernel
theorem dX2_compareAll_48 : decode cX2_compareAll 48 = .ok (.aload_n 1, 1) := by decide +kernel
theorem dX2_compareAll_49 : decode cX2_compareAll 49 = .ok (.getfield 31, 3) := by decide +kernel
theorem dX2_compareAll_52 : decode cX2_compareAll 52 = .ok (.invokevirtual 42, 3) := by decide +kernel
theorem dX2_compareAll_55 : decode cX2_compareAll 55 = .ok (.ifCond .eq 14, 3) := by decide +kernel
theorem dX2_compareAll_58 : decode cX2_compareAll 58 = .ok (.aload_n 0, 1) := by decide +kernel
theorem dX2_compareAll_59 : decode cX2_compareAll 59 = .ok (.aload_n 1, 1) := by decide +kernel
theorem dX2_compareAll_60 : decode cX2_compareAll 60 = .ok (.getfield 46, 3) := by decide +kernel
theorem dX2_compareAll_63 : decode cX2_compareAll 63 = .ok (.iload 4, 2) := by decide +kernel
theorem dX2_compareAll_65 : decode cX2_compareAll 65 = .ok (.iaload, 1) := by decide +kernel
theorem dX2_compareAll_66 : decode cX2_compareAll 66 = .ok (.invokevirtual 50, 3) := by decide +kernel
theorem dX2_compareAll_69 : decode cX2_compareAll 69 = .ok (.iinc 4 1, 3) := by decide +kernel
theorem dX2_compareAll_72 : decode cX2_compareAll 72 = .ok (.goto (-69), 3) := by decide +kernel
theorem dX2_compareAll_75 : decode cX2_compareAll 75 = .ok (.return_, 1) := by decide +kernel
abbrev R_X2_compareAll : Room := ({ frames := 3, cells := 0, slots := 0, locals := 77 } : Room)
def b_X2_compareAll_69 (n : Nat) (rec : (Gs → Gs → Gs → Int32 → Int32 → Int32 → Option (Gs))) (gT : Gs) (gT_0 : Gs) (gP0 : Gs) (v2 : Int32) (v3 : Int32) (v4 : Int32) : Option (Gs) :=
  rec gT gT_0 gP0 v2 v3 (v4 + (1 : Int32))
def b_X2_compareAll_58 (n : Nat) (rec : (Gs → Gs → Gs → Int32 → Int32 → Int32 → Option (Gs))) (gT : Gs) (gT_0 : Gs) (gP0 : Gs) (v2 : Int32) (v3 : Int32) (v4 : Int32) : Option (Gs) :=
  grd (inB v4 60) (bnd (f_X2_refuse gT (gIA gP0 3 v4.toNatClampNeg)) (fun q_4 => b_X2_compareAll_69 n rec q_4 gT_0 gP0 v2 v3 v4))
def h_X2_compareAll_3 (n : Nat) (rec : (Gs → Gs → Gs → Int32 → Int32 → Int32 → Option (Gs))) (gT : Gs) (gT_0 : Gs) (gP0 : Gs) (v2 : Int32) (v3 : Int32) (v4 : Int32) : Option (Gs) :=
  if (v2 + v3) ≤ v4 then (some gT) else (bnd (f_X2_isToldAhead n gT gT_0 gP0 v4 (0 : Int32) (gI gP0 4)) (fun q_1 => if q_1 = 0 then (bnd (f_X2_isToldAhead n gT gT_0 gP0 v4 (40 : Int32) (gI gP0 5)) (fun q_6 => if q_6 = 0 then (bnd (f_X2_isToldAhead n gT gT_0 gP0 v4 (52 : Int32) (gI gP0 6)) (fun q_8 => if q_8 = 0 then (b_X2_compareAll_69 n rec gT gT_0 gP0 v2 v3 v4) else (b_X2_compareAll_58 n rec gT gT_0 gP0 v2 v3 v4))) else (b_X2_compareAll_58 n rec gT gT_0 gP0 v2 v3 v4))) else (b_X2_compareAll_58 n rec gT gT_0 gP0 v2 v3 v4)))
def L_X2_compareAll (n : Nat) : Nat → (Gs → Gs → Gs → Int32 → Int32 → Int32 → Option (Gs))
  | 0 => ((fun _ _ _ _ _ _ => none))
  | k + 1 => (h_X2_compareAll_3 n (L_X2_compareAll n k))
def f_X2_compareAll (n : Nat) (gT : Gs) (gT_0 : Gs) (gP0 : Gs) (x1 : Int32) (x2 : Int32) : Option (Gs) :=
  (L_X2_compareAll n n) gT gT_0 gP0 x1 x2 x1
def S_X2_compareAll_69 (l : Launch) (D : Dx) (hT : Nat) (aT : Nat → Nat) (yT : Nat → ClassId) (aT_0 : Nat → Nat) (yT_0 : Nat → ClassId) (hP0 : Nat) (aP0 : Nat → Nat) (yP0 : Nat → ClassId) (fn : Gs → Gs → Gs → Int32 → Int32 → Int32 → Option (Gs)) : Prop :=
  ∀ {p : Program} {e : Env} {s : State} {m : MethodId} {args : Array Value} {below : List Frame} {meth : Method} {c : Code} {H : Heap} {locs : List Loc} {A : Nat → Prop} {ls : Array Slot} {gT : Gs} {gT_0 : Gs} {gP0 : Gs} {v2 : Int32} {v3 : Int32} {v4 : Int32} {q : Gs}, Cx p s m args meth c cX2_compareAll none 5 RX2 lw_all → Hx D (tX2 yT ++ (tTP yT_0 ++ (tX4 yP0))) A s H locs (wX2 hT aT yT gT ++ (wTP (aT 0) aT_0 yT_0 gT_0 ++ (wX4 hP0 aP0 yP0 gP0))) → lv_has ls 5 [(0, .ref hT), (1, .ref hP0), (2, .int v2), (3, .int v3), (4, .int v4)] → fn gT gT_0 gP0 v2 v3 v4 = some q → W p l e R_X2_compareAll s m args below meth c H locs 0 0 (MQ below (QV D A (wX2 hT aT yT q ++ (wTP (aT 0) aT_0 yT_0 gT_0 ++ (wX4 hP0 aP0 yP0 gP0)))) args s 0 0 A) (F0 m 69 ls [])
def S_X2_compareAll_58 (l : Launch) (D : Dx) (hT : Nat) (aT : Nat → Nat) (yT : Nat → ClassId) (aT_0 : Nat → Nat) (yT_0 : Nat → ClassId) (hP0 : Nat) (aP0 : Nat → Nat) (yP0 : Nat → ClassId) (fn : Gs → Gs → Gs → Int32 → Int32 → Int32 → Option (Gs)) : Prop :=
  ∀ {p : Program} {e : Env} {s : State} {m : MethodId} {args : Array Value} {below : List Frame} {meth : Method} {c : Code} {H : Heap} {locs : List Loc} {A : Nat → Prop} {ls : Array Slot} {gT : Gs} {gT_0 : Gs} {gP0 : Gs} {v2 : Int32} {v3 : Int32} {v4 : Int32} {q : Gs}, Cx p s m args meth c cX2_compareAll none 5 RX2 lw_all → Hx D (tX2 yT ++ (tTP yT_0 ++ (tX4 yP0))) A s H locs (wX2 hT aT yT gT ++ (wTP (aT 0) aT_0 yT_0 gT_0 ++ (wX4 hP0 aP0 yP0 gP0))) → lv_has ls 5 [(0, .ref hT), (1, .ref hP0), (2, .int v2), (3, .int v3), (4, .int v4)] → fn gT gT_0 gP0 v2 v3 v4 = some q → W p l e R_X2_compareAll s m args below meth c H locs 0 0 (MQ below (QV D A (wX2 hT aT yT q ++ (wTP (aT 0) aT_0 yT_0 gT_0 ++ (wX4 hP0 aP0 yP0 gP0)))) args s 0 0 A) (F0 m 58 ls [])
def S_X2_compareAll_3 (l : Launch) (D : Dx) (hT : Nat) (aT : Nat → Nat) (yT : Nat → ClassId) (aT_0 : Nat → Nat) (yT_0 : Nat → ClassId) (hP0 : Nat) (aP0 : Nat → Nat) (yP0 : Nat → ClassId) (fn : Gs → Gs → Gs → Int32 → Int32 → Int32 → Option (Gs)) : Prop :=
  ∀ {p : Program} {e : Env} {s : State} {m : MethodId} {args : Array Value} {below : List Frame} {meth : Method} {c : Code} {H : Heap} {locs : List Loc} {A : Nat → Prop} {ls : Array Slot} {gT : Gs} {gT_0 : Gs} {gP0 : Gs} {v2 : Int32} {v3 : Int32} {v4 : Int32} {q : Gs}, Cx p s m args meth c cX2_compareAll none 5 RX2 lw_all → Hx D (tX2 yT ++ (tTP yT_0 ++ (tX4 yP0))) A s H locs (wX2 hT aT yT gT ++ (wTP (aT 0) aT_0 yT_0 gT_0 ++ (wX4 hP0 aP0 yP0 gP0))) → lv_has ls 5 [(0, .ref hT), (1, .ref hP0), (2, .int v2), (3, .int v3), (4, .int v4)] → fn gT gT_0 gP0 v2 v3 v4 = some q → W p l e R_X2_compareAll s m args below meth c H locs 0 0 (MQ below (QV D A (wX2 hT aT yT q ++ (wTP (aT 0) aT_0 yT_0 gT_0 ++ (wX4 hP0 aP0 yP0 gP0)))) args s 0 0 A) (F0 m 3 ls [])
def SH_X2_compareAll (l : Launch) (D : Dx) (hT : Nat) (aT : Nat → Nat) (yT : Nat → ClassId) (aT_0 : Nat → Nat) (yT_0 : Nat → ClassId) (hP0 : Nat) (aP0 : Nat → Nat) (yP0 : Nat → ClassId) (rec : (Gs → Gs → Gs → Int32 → Int32 → Int32 → Option (Gs))) : Prop := S_X2_compareAll_3 l D hT aT yT aT_0 yT_0 hP0 aP0 yP0 rec
set_option maxHeartbeats 4000000 in
set_option maxRecDepth 100000 in
theorem k_X2_compareAll_69 (l : Launch) (D : Dx) (hT : Nat) (aT : Nat → Nat) (yT : Nat → ClassId) (aT_0 : Nat → Nat) (yT_0 : Nat → ClassId) (hP0 : Nat) (aP0 : Nat → Nat) (yP0 : Nat → ClassId) (n : Nat) (rec : (Gs → Gs → Gs → Int32 → Int32 → Int32 → Option (Gs))) (IH : SH_X2_compareAll l D hT aT yT aT_0 yT_0 hP0 aP0 yP0 rec) : S_X2_compareAll_69 l D hT aT yT aT_0 yT_0 hP0 aP0 yP0 (b_X2_compareAll_69 n rec) := by
  intro p e s m args below meth c H locs A ls gT gT_0 gP0 v2 v3 v4 q C X hl hF
  obtain ⟨hx, hb, hr, hml, hown, hts, hlk⟩ := id C
  unfold b_X2_compareAll_69 at hF
  refine lv_iinc (v := v4 + (1 : Int32)) (lv' := [(4, .int (v4 + (1 : Int32))), (0, .ref hT), (1, .ref hP0), (2, .int v2), (3, .int v3)]) hx hb dX2_compareAll_69 hl (k := 4) rfl rfl (by decide) rfl (fun ls hl => ?_)
  refine lv_goto (tgt := 3) hx hb dX2_compareAll_72 (by decide) ?_
  exact IH C X (lv_sub hl [1, 2, 3, 4, 0] rfl) hF
set_option maxHeartbeats 4000000 in
set_option maxRecDepth 100000 in
theorem k_X2_compareAll_58 (l : Launch) (D : Dx) (hT : Nat) (aT : Nat → Nat) (yT : Nat → ClassId) (aT_0 : Nat → Nat) (yT_0 : Nat → ClassId) (hP0 : Nat) (aP0 : Nat → Nat) (yP0 : Nat → ClassId) (n : Nat) (rec : (Gs → Gs → Gs → Int32 → Int32 → Int32 → Option (Gs))) (IH : SH_X2_compareAll l D hT aT yT aT_0 yT_0 hP0 aP0 yP0 rec) : S_X2_compareAll_58 l D hT aT yT aT_0 yT_0 hP0 aP0 yP0 (b_X2_compareAll_58 n rec) := by
  intro p e s m args below meth c H locs A ls gT gT_0 gP0 v2 v3 v4 q C X hl hF
  obtain ⟨hx, hb, hr, hml, hown, hts, hlk⟩ := id C
  unfold b_X2_compareAll_58 at hF
  refine lv_aload_n hx hb dX2_compareAll_58 rfl (lv_at hl 0 rfl) ?_
  refine lv_aload_n hx hb dX2_compareAll_59 rfl (lv_at hl 1 rfl) ?_
  refine va_getN (D := D.1) (ci := 4) (v := .ref (aP0 3)) (C := RX4) (T := TX4) (N := 14) hx hb hts wi_X4 hown X.1 X.2.1 2 rfl rfl 3 (by decide) (X.2.2.2.2.2.1.use q2_78 rfl) (fun _ h9 => h9) (fl_get (by decide)) dX2_compareAll_60 ?_
  refine lv_iload hx hb dX2_compareAll_63 (lv_at hl 4 rfl) ?_
  obtain ⟨h_3, hF⟩ := grd_some hF
  refine va_iald (D := D.1) (f := gIA gP0 3) hx hb X.1 X.2.1 5 3 rfl rfl (inB_ok h_3) dX2_compareAll_65 ?_
  obtain ⟨q_4, hc_5, hF⟩ := bnd_some hF
  refine cV_v (As := [.int (gIA gP0 3 v4.toNatClampNeg)]) (rest := []) C X (c_X2_refuse l D hT aT yT gT (gIA gP0 3 v4.toNatClampNeg) q_4 hc_5 _) (cwV 1 hts (good_V q4_196 q4_198 q0_39 q1_13 q4_199) rfl rfl rfl (by decide +kernel) ⟨Nat.le_of_ble_eq_true rfl, Nat.le_of_ble_eq_true rfl⟩) (va_recv X.1 X.2.1 (ci := 2) (q0 := 0) rfl rfl) (X.1.sub (tys' := tX2 yT) [] rfl) (X.2.1.sub (ws' := wX2 hT aT yT gT) [0] rfl) (X.2.2.1.sub (ws' := wX2 hT aT yT gT) [0] (by decide) rfl) (free_of (wC := wX2 hT aT yT gT) (isC := [0]) X rfl) hl.1 rfl rfl (Nat.le_of_ble_eq_true rfl) dX2_compareAll_66 ⟨Nat.le_of_ble_eq_true rfl, Nat.le_of_ble_eq_true rfl⟩ (fun t H1 locs1 ht hB hk hS => ?_)
  have X : Hx D (tX2 yT ++ (tTP yT_0 ++ (tX4 yP0))) A s H1 locs1 (wX2 hT aT yT q_4 ++ (wTP (aT 0) aT_0 yT_0 gT_0 ++ (wX4 hP0 aP0 yP0 gP0))) := Hx_after (isC := [0]) (isR := [1, 2, 3, 4, 5, 6, 7, 8, 9, 10, 11, 12]) (pm := [12, 0, 1, 2, 3, 4, 5, 6, 7, 8, 9, 10, 11]) (wr := wTP (aT 0) aT_0 yT_0 gT_0 ++ (wX4 hP0 aP0 yP0 gP0)) X ⟨rfl, rfl, by decide, by decide, rfl, by decide⟩ ht hB hk hS
  clear hk hS ht hB
  generalize H1 = H at X ⊢
  generalize locs1 = locs at X ⊢
  exact (k_X2_compareAll_69 l D hT aT yT aT_0 yT_0 hP0 aP0 yP0 n rec IH) C X (lv_sub hl [0, 1, 2, 3, 4] rfl) hF
set_option maxHeartbeats 4000000 in
set_option maxRecDepth 100000 in
theorem k_X2_compareAll_3 (l : Launch) (D : Dx) (hT : Nat) (aT : Nat → Nat) (yT : Nat → ClassId) (aT_0 : Nat → Nat) (yT_0 : Nat → ClassId) (hP0 : Nat) (aP0 : Nat → Nat) (yP0 : Nat → ClassId) (n : Nat) (rec : (Gs → Gs → Gs → Int32 → Int32 → Int32 → Option (Gs))) (IH : SH_X2_compareAll l D hT aT yT aT_0 yT_0 hP0 aP0 yP0 rec) : S_X2_compareAll_3 l D hT aT yT aT_0 yT_0 hP0 aP0 yP0 (h_X2_compareAll_3 n rec) := by
  intro p e s m args below meth c H locs A ls gT gT_0 gP0 v2 v3 v4 q C X hl hF
  obtain ⟨hx, hb, hr, hml, hown, hts, hlk⟩ := id C
  unfold h_X2_compareAll_3 at hF
  refine lv_iload hx hb dX2_compareAll_3 (lv_at hl 4 rfl) ?_
  refine lv_iload_n hx hb dX2_compareAll_5 rfl (lv_at hl 2 rfl) ?_
  refine lv_iload_n hx hb dX2_compareAll_6 rfl (lv_at hl 3 rfl) ?_
  refine lv_iadd hx hb dX2_compareAll_7 ?_
  refine lv_icmp_ge (tgt := 75) hx hb dX2_compareAll_8 (by decide) (fun c => ?_) (fun c => ?_)
  · replace hF := iT c hF
    have hq := Option.some.inj hF
    subst hq
    exact rt_v C X dX2_compareAll_75
  · replace hF := iF c hF
    refine lv_aload_n hx hb dX2_compareAll_11 rfl (lv_at hl 0 rfl) ?_
    refine lv_aload_n hx hb dX2_compareAll_12 rfl (lv_at hl 1 rfl) ?_
    refine lv_iload hx hb dX2_compareAll_13 (lv_at hl 4 rfl) ?_
    refine lv_iconst (v := (0 : Int32)) hx hb dX2_compareAll_15 (by decide) ?_
    refine lv_aload_n hx hb dX2_compareAll_16 rfl (lv_at hl 1 rfl) ?_
    refine va_getN (D := D.1) (ci := 4) (v := .int (gI gP0 4)) (C := RX4) (T := TX4) (N := 14) hx hb hts wi_X4 hown X.1 X.2.1 2 rfl rfl 4 (by decide) (X.2.2.2.2.2.1.use q2_81 rfl) (fun _ h9 => h9) (fl_get (by decide)) dX2_compareAll_17 ?_
    obtain ⟨q_1, hc_2, hF⟩ := bnd_some hF
    refine cV_i (As := [.ref hP0, .int v4, .int (0 : Int32), .int (gI gP0 4)]) (rest := []) C X (c_X2_isToldAhead l D hT aT yT aT_0 yT_0 hP0 aP0 yP0 n gT gT_0 gP0 v4 (0 : Int32) (gI gP0 4) q_1 hc_2 _) (cwV 4 hts (good_V q4_184 q4_186 q0_37 q1_13 q4_187) rfl rfl rfl (by decide +kernel) ⟨Nat.le_of_ble_eq_true rfl, Nat.le_of_ble_eq_true rfl⟩) (va_recv X.1 X.2.1 (ci := 2) (q0 := 0) rfl rfl) X.1 X.2.1 X.2.2.1 (free_all X) hl.1 rfl rfl (Nat.le_of_ble_eq_true rfl) dX2_compareAll_20 ⟨Nat.le_of_ble_eq_true rfl, Nat.le_of_ble_eq_true rfl⟩ (fun t H1 locs1 ht hB hk hS => ?_)
    have X : Hx D (tX2 yT ++ (tTP yT_0 ++ (tX4 yP0))) A s H1 locs1 (wX2 hT aT yT gT ++ (wTP (aT 0) aT_0 yT_0 gT_0 ++ (wX4 hP0 aP0 yP0 gP0))) := Hx_after_all X ht hB hS
    clear hk hS ht hB
    generalize H1 = H at X ⊢
    generalize locs1 = locs at X ⊢
    refine lv_if_ne (tgt := 58) hx hb dX2_compareAll_23 (by decide) (fun c => ?_) (fun c => ?_)
    · replace hF := iF c hF
      exact (k_X2_compareAll_58 l D hT aT yT aT_0 yT_0 hP0 aP0 yP0 n rec IH) C X (lv_sub hl [0, 1, 2, 3, 4] rfl) hF
    · replace hF := iT c hF
      refine lv_aload_n hx hb dX2_compareAll_26 rfl (lv_at hl 0 rfl) ?_
      refine lv_aload_n hx hb dX2_compareAll_27 rfl (lv_at hl 1 rfl) ?_
      refine lv_iload hx hb dX2_compareAll_28 (lv_at hl 4 rfl) ?_
      refine lv_bipush (v := (40 : Int32)) hx hb dX2_compareAll_30 (by decide) ?_
      refine lv_aload_n hx hb dX2_compareAll_32 rfl (lv_at hl 1 rfl) ?_
      refine va_getN (D := D.1) (ci := 4) (v := .int (gI gP0 5)) (C := RX4) (T := TX4) (N := 14) hx hb hts wi_X4 hown X.1 X.2.1 2 rfl rfl 5 (by decide) (X.2.2.2.2.2.1.use q2_85 rfl) (fun _ h9 => h9) (fl_get (by decide)) dX2_compareAll_33 ?_
      obtain ⟨q_6, hc_7, hF⟩ := bnd_some hF
      refine cV_i (As := [.ref hP0, .int v4, .int (40 : Int32), .int (gI gP0 5)]) (rest := []) C X (c_X2_isToldAhead l D hT aT yT aT_0 yT_0 hP0 aP0 yP0 n gT gT_0 gP0 v4 (40 : Int32) (gI gP0 5) q_6 hc_7 _) (cwV 4 hts (good_V q4_184 q4_186 q0_37 q1_13 q4_187) rfl rfl rfl (by decide +kernel) ⟨Nat.le_of_ble_eq_true rfl, Nat.le_of_ble_eq_true rfl⟩) (va_recv X.1 X.2.1 (ci := 2) (q0 := 0) rfl rfl) X.1 X.2.1 X.2.2.1 (free_all X) hl.1 rfl rfl (Nat.le_of_ble_eq_true rfl) dX2_compareAll_36 ⟨Nat.le_of_ble_eq_true rfl, Nat.le_of_ble_eq_true rfl⟩ (fun t H1 locs1 ht hB hk hS => ?_)
      have X : Hx D (tX2 yT ++ (tTP yT_0 ++ (tX4 yP0))) A s H1 locs1 (wX2 hT aT yT gT ++ (wTP (aT 0) aT_0 yT_0 gT_0 ++ (wX4 hP0 aP0 yP0 gP0))) := Hx_after_all X ht hB hS
      clear hk hS ht hB
      generalize H1 = H at X ⊢
      generalize locs1 = locs at X ⊢
      refine lv_if_ne (tgt := 58) hx hb dX2_compareAll_39 (by decide) (fun c => ?_) (fun c => ?_)
      · replace hF := iF c hF
        exact (k_X2_compareAll_58 l D hT aT yT aT_0 yT_0 hP0 aP0 yP0 n rec IH) C X (lv_sub hl [0, 1, 2, 3, 4] rfl) hF
      · replace hF := iT c hF
        refine lv_aload_n hx hb dX2_compareAll_42 rfl (lv_at hl 0 rfl) ?_
        refine lv_aload_n hx hb dX2_compareAll_43 rfl (lv_at hl 1 rfl) ?_
        refine lv_iload hx hb dX2_compareAll_44 (lv_at hl 4 rfl) ?_
        refine lv_bipush (v := (52 : Int32)) hx hb dX2_compareAll_46 (by decide) ?_
        refine lv_aload_n hx hb dX2_compareAll_48 rfl (lv_at hl 1 rfl) ?_
        refine va_getN (D := D.1) (ci := 4) (v := .int (gI gP0 6)) (C := RX4) (T := TX4) (N := 14) hx hb hts wi_X4 hown X.1 X.2.1 2 rfl rfl 6 (by decide) (X.2.2.2.2.2.1.use q2_90 rfl) (fun _ h9 => h9) (fl_get (by decide)) dX2_compareAll_49 ?_
        obtain ⟨q_8, hc_9, hF⟩ := bnd_some hF
        refine cV_i (As := [.ref hP0, .int v4, .int (52 : Int32), .int (gI gP0 6)]) (rest := []) C X (c_X2_isToldAhead l D hT aT yT aT_0 yT_0 hP0 aP0 yP0 n gT gT_0 gP0 v4 (52 : Int32) (gI gP0 6) q_8 hc_9 _) (cwV 4 hts (good_V q4_184 q4_186 q0_37 q1_13 q4_187) rfl rfl rfl (by decide +kernel) ⟨Nat.le_of_ble_eq_true rfl, Nat.le_of_ble_eq_true rfl⟩) (va_recv X.1 X.2.1 (ci := 2) (q0 := 0) rfl rfl) X.1 X.2.1 X.2.2.1 (free_all X) hl.1 rfl rfl (Nat.le_of_ble_eq_true rfl) dX2_compareAll_52 ⟨Nat.le_of_ble_eq_true rfl, Nat.le_of_ble_eq_true rfl⟩ (fun t H1 locs1 ht hB hk hS => ?_)
        have X : Hx D (tX2 yT ++ (tTP yT_0 ++ (tX4 yP0))) A s H1 locs1 (wX2 hT aT yT gT ++ (wTP (aT 0) aT_0 yT_0 gT_0 ++ (wX4 hP0 aP0 yP0 gP0))) := Hx_after_all X ht hB hS
        clear hk hS ht hB
        generalize H1 = H at X ⊢
        generalize locs1 = locs at X ⊢
        refine lv_if_eq (tgt := 69) hx hb dX2_compareAll_55 (by decide) (fun c => ?_) (fun c => ?_)
        · replace hF := iT c hF
          exact (k_X2_compareAll_69 l D hT aT yT aT_0 yT_0 hP0 aP0 yP0 n rec IH) C X (lv_sub hl [0, 1, 2, 3, 4] rfl) hF
        · replace hF := iF c hF
          exact (k_X2_compareAll_58 l D hT aT yT aT_0 yT_0 hP0 aP0 yP0 n rec IH) C X (lv_sub hl [0, 1, 2, 3, 4] rfl) hF
theorem kL_X2_compareAll (l : Launch) (D : Dx) (hT : Nat) (aT : Nat → Nat) (yT : Nat → ClassId) (aT_0 : Nat → Nat) (yT_0 : Nat → ClassId) (hP0 : Nat) (aP0 : Nat → Nat) (yP0 : Nat → ClassId) (n : Nat) : ∀ k, SH_X2_compareAll l D hT aT yT aT_0 yT_0 hP0 aP0 yP0 (L_X2_compareAll n k)
  | 0 => fun _ _ _ h => by cases h
  | k + 1 => k_X2_compareAll_3 l D hT aT yT aT_0 yT_0 hP0 aP0 yP0 n _ (kL_X2_compareAll l D hT aT yT aT_0 yT_0 hP0 aP0 yP0 n k)
set_option maxHeartbeats 4000000 in
set_option maxRecDepth 100000 in
theorem c_X2_compareAll (l : Launch) (D : Dx) (hT : Nat) (aT : Nat → Nat) (yT : Nat → ClassId) (aT_0 : Nat → Nat) (yT_0 : Nat → ClassId) (hP0 : Nat) (aP0 : Nat → Nat) (yP0 : Nat → ClassId) (n : Nat) (gT : Gs) (gT_0 : Gs) (gP0 : Gs) (x1 : Int32) (x2 : Int32) (q : Gs) (hF : f_X2_compareAll n gT gT_0 gP0 x1 x2 = some q) (sz : Nat) : Met l yX2_compareAll (ws_ yX2_compareAll cX2_compareAll 5 none) R_X2_compareAll (PC D (tX2 yT ++ (tTP yT_0 ++ (tX4 yP0))) [.ref hT, .ref hP0, .int x1, .int x2] (wX2 hT aT yT gT ++ (wTP (aT 0) aT_0 yT_0 gT_0 ++ (wX4 hP0 aP0 yP0 gP0))) sz) (QV D (va_A (wX2 hT aT yT gT ++ (wTP (aT 0) aT_0 yT_0 gT_0 ++ (wX4 hP0 aP0 yP0 gP0))) sz) (wX2 hT aT yT q ++ (wTP (aT 0) aT_0 yT_0 gT_0 ++ (wX4 hP0 aP0 yP0 gP0)))) 0 0 (va_A (wX2 hT aT yT gT ++ (wTP (aT 0) aT_0 yT_0 gT_0 ++ (wX4 hP0 aP0 yP0 gP0))) sz) := by
  refine Met.ofW (cc := cX2_compareAll) (maxL := 5) (ret := none) (by decide) rfl ?_
  intro p e s m args below meth c s₁ B hml hv
  obtain ⟨rfl, hsz, hP, hK, hD, hN⟩ := hv
  subst hsz
  have C : Cx p s m _ meth c cX2_compareAll none 5 RX2 lw_all := Cx_of B hml
  have X := Hx_start hP hK hD hN
  obtain ⟨hx, hb, hr, -, hown, hts, hlk⟩ := id C
  generalize va_A (wX2 hT aT yT gT ++ (wTP (aT 0) aT_0 yT_0 gT_0 ++ (wX4 hP0 aP0 yP0 gP0))) s.heap.size = A at X ⊢
  have hl := lv_entry ([.ref hT, .ref hP0, .int x1, .int x2]) (n := 5) (Nat.le_of_ble_eq_true rfl)
  rw [lg_entry_eq]
  generalize (lg_sl ([.ref hT, .ref hP0, .int x1, .int x2]) ++ List.replicate (5 - (lg_sl ([.ref hT, .ref hP0, .int x1, .int x2])).length) Slot.unset).toArray = ls at hl ⊢
  have hl : lv_has ls 5 [(0, .ref hT), (1, .ref hP0), (2, .int x1), (3, .int x2)] := hl
  unfold f_X2_compareAll at hF
  refine lv_iload_n hx hb dX2_compareAll_0 rfl (lv_at hl 2 rfl) ?_
  refine lv_istore (lv' := [(4, .int x1), (0, .ref hT), (1, .ref hP0), (2, .int x1), (3, .int x2)]) hx hb dX2_compareAll_1 hl (by decide) rfl (fun ls hl => ?_)
  exact (kL_X2_compareAll l D hT aT yT aT_0 yT_0 hP0 aP0 yP0 n n) C X (lv_sub hl [1, 2, 3, 4, 0] rfl) hF

/-! ### X2_resolve -/
theorem dX2_resolve_0 : decode cX2_resolve 0 = .ok (.iconst 0, 1) := by decide +kernel
theorem dX2_resolve_1 : decode cX2_resolve 1 = .ok (.istore_n 3, 1) := by decide +kernel
theorem dX2_resolve_2 : decode cX2_resolve 2 = .ok (.iload_n 3, 1) := by decide +kernel
theorem dX2_resolve_3 : decode cX2_resolve 3 = .ok (.aload_n 2, 1) := by decide +kernel
theorem dX2_resolve_4 : decode cX2_resolve 4 = .ok (.getfield 61, 3) := by decide +kernel
theorem dX2_resolve_7 : decode cX2_resolve 7 = .ok (.if_icmp .ge 188, 3) := by decide +kernel
theorem dX2_resolve_10 : decode cX2_resolve 10 = .ok (.aload_n 2, 1) := by decide +kernel
theorem dX2_resolve_11 : decode cX2_resolve 11 = .ok (.getfield 66, 3) := by decide +kernel
theorem dX2_resolve_14 : decode cX2_resolve 14 = .ok (.iload_n 3, 1) := by decide +kernel
theorem dX2_resolve_15 : decode cX2_resolve 15 = .ok (.iaload, 1) := by decide +kernel
theorem dX2_resolve_16 : decode cX2_resolve 16 = .ok (.aload_n 1, 1) := by decide +kernel
theorem dX2_resolve_17 : decode cX2_resolve 17 = .ok (.getfield 19, 3) := by decide +kernel
theorem dX2_resolve_20 : decode cX2_resolve 20 = .ok (.invokestatic 69, 3) := by decide +kernel
theorem dX2_resolve_23 : decode cX2_resolve 23 = .ok (.istore 4, 2) := by decide +kernel
theorem dX2_resolve_25 : decode cX2_resolve 25 = .ok (.aload_n 2, 1) := by decide +kernel
theorem dX2_resolve_26 : decode cX2_resolve 26 = .ok (.getfield 75, 3) := by decide +kernel
theorem dX2_resolve_29 : decode cX2_resolve 29 = .ok (.iload_n 3, 1) := by decide +kernel
theorem dX2_resolve_30 : decode cX2_resolve 30 = .ok (.iaload, 1) := by decide +kernel
theorem dX2_resolve_31 : decode cX2_resolve 31 = .ok (.aload_n 1, 1) := by decide +kernel
theorem dX2_resolve_32 : decode cX2_resolve 32 = .ok (.getfield 31, 3) := by decide +kernel
theorem dX2_resolve_35 : decode cX2_resolve 35 = .ok (.invokestatic 69, 3) := by decide +kernel
theorem dX2_resolve_38 : decode cX2_resolve 38 = .ok (.istore 5, 2) := by decide +kernel
theorem dX2_resolve_40 : decode cX2_resolve 40 = .ok (.aload_n 2, 1) := by decide +kernel
theorem dX2_resolve_41 : decode cX2_resolve 41 = .ok (.iload_n 3, 1) := by decide +kernel
theorem dX2_resolve_42 : decode cX2_resolve 42 = .ok (.invokevirtual 78, 3) := by decide +kernel
theorem dX2_resolve_45 : decode cX2_resolve 45 = .ok (.istore 6, 2) := by decide +kernel
theorem dX2_resolve_47 : decode cX2_resolve 47 = .ok (.iload 6, 2) := by decide +kernel
theorem dX2_resolve_49 : decode cX2_resolve 49 = .ok (.aload_n 2, 1) := by decide +kernel
theorem dX2_resolve_50 : decode cX2_resolve 50 = .ok (.iload_n 3, 1) := by decide +kernel
theorem dX2_resolve_51 : decode cX2_resolve 51 = .ok (.invokevirtual 82, 3) := by decide +kernel
theorem dX2_resolve_54 : decode cX2_resolve 54 = .ok (.if_icmp .ge 135, 3) := by decide +kernel
theorem dX2_resolve_57 : decode cX2_resolve 57 = .ok (.aload_n 2, 1) := by decide +kernel
theorem dX2_resolve_58 : decode cX2_resolve 58 = .ok (.getfield 85, 3) := by decide +kernel
theorem dX2_resolve_61 : decode cX2_resolve 61 = .ok (.iload 6, 2) := by decide +kernel
theorem dX2_resolve_63 : decode cX2_resolve 63 = .ok (.iaload, 1) := by decide +kernel
theorem dX2_resolve_64 : decode cX2_resolve 64 = .ok (.bipush 64, 2) := by decide +kernel
theorem dX2_resolve_66 : decode cX2_resolve 66 = .ok (.if_icmp .ne 7, 3) := by decide +kernel
theorem dX2_resolve_69 : decode cX2_resolve 69 = .ok (.iconst 1, 1) := by decide +kernel
theorem dX2_resolve_70 : decode cX2_resolve 70 = .ok (.goto 4, 3) := by decide +kernel
theorem dX2_resolve_73 : decode cX2_resolve 73 = .ok (.iconst 0, 1) := by decide +kernel
theorem dX2_resolve_74 : decode cX2_resolve 74 = .ok (.istore 7, 2) := by decide +kernel
theorem dX2_resolve_76 : decode cX2_resolve 76 = .ok (.iload 7, 2) := by decide +kernel
theorem dX2_resolve_78 : decode cX2_resolve 78 = .ok (.ifCond .ne 30, 3) := by decide +kernel
theorem dX2_resolve_81 : decode cX2_resolve 81 = .ok (.aload_n 2, 1) := by decide +kernel
theorem dX2_resolve_82 : decode cX2_resolve 82 = .ok (.getfield 85, 3) := by decide +kernel
theorem dX2_resolve_85 : decode cX2_resolve 85 = .ok (.iload 6, 2) := by decide +kernel
theorem dX2_resolve_87 : decode cX2_resolve 87 = .ok (.iaload, 1) := by decide +kernel
theorem dX2_resolve_88 : decode cX2_resolve 88 = .ok (.bipush 63, 2) := by decide +kernel
theorem dX2_resolve_90 : decode cX2_resolve 90 = .ok (.if_icmp .eq 18, 3) := by decide +kernel
theorem dX2_resolve_93 : decode cX2_resolve 93 = .ok (.aload_n 2, 1) := by decide +kernel
theorem dX2_resolve_94 : decode cX2_resolve 94 = .ok (.getfield 85, 3) := by decide +kernel
theorem dX2_resolve_97 : decode cX2_resolve 97 = .ok (.iload 6, 2) := by decide +kernel
theorem dX2_resolve_99 : decode cX2_resolve 99 = .ok (.iaload, 1) := by decide +kernel
theorem dX2_resolve_100 : decode cX2_resolve 100 = .ok (.bipush 16, 2) := by decide +kernel
theorem dX2_resolve_102 : decode cX2_resolve 102 = .ok (.if_icmp .eq 6, 3) := by decide +kernel
theorem dX2_resolve_105 : decode cX2_resolve 105 = .ok (.goto 78, 3) := by decide +kernel
theorem dX2_resolve_108 : decode cX2_resolve 108 = .ok (.aload_n 2, 1) := by decide +kernel
theorem dX2_resolve_109 : decode cX2_resolve 109 = .ok (.getfield 88, 3) := by decide +kernel
theorem dX2_resolve_112 : decode cX2_resolve 112 = .ok (.iload 6, 2) := by decide +kernel
theorem dX2_resolve_114 : decode cX2_resolve 114 = .ok (.iaload, 1) := by decide +kernel
theorem dX2_resolve_115 : decode cX2_resolve 115 = .ok (.istore 8, 2) := by decide +kernel
theorem dX2_resolve_117 : decode cX2_resolve 117 = .ok (.aload_n 1, 1) := by decide +kernel
theorem dX2_resolve_118 : decode cX2_resolve 118 = .ok (.aload_n 0, 1) := by decide +kernel
theorem dX2_resolve_119 : decode cX2_resolve 119 = .ok (.getfield 15, 3) := by decide +kernel
theorem dX2_resolve_122 : decode cX2_resolve 122 = .ok (.iload 8, 2) := by decide +kernel
theorem dX2_resolve_124 : decode cX2_resolve 124 = .ok (.aload_n 2, 1) := by decide +kernel
theorem dX2_resolve_125 : decode cX2_resolve 125 = .ok (.getfield 91, 3) := by decide +kernel
theorem dX2_resolve_128 : decode cX2_resolve 128 = .ok (.iload 6, 2) := by decide +kernel
theorem dX2_resolve_130 : decode cX2_resolve 130 = .ok (.iaload, 1) := by decide +kernel
theorem dX2_resolve_131 : decode cX2_resolve 131 = .ok (.iload 7, 2) := by decide +kernel
theorem dX2_resolve_133 : decode cX2_resolve 133 = .ok (.ifCond .eq 8, 3) := by decide +kernel
theorem dX2_resolve_136 : decode cX2_resolve 136 = .ok (.bipush 52, 2) := by decide +kernel
theorem dX2_resolve_138 : decode cX2_resolve 138 = .ok (.goto 4, 3) := by decide +kernel
theorem dX2_resolve_141 : decode cX2_resolve 141 = .ok (.iconst 0, 1) := by decide +kernel
theorem dX2_resolve_142 : decode cX2_resolve 142 = .ok (.iload 7, 2) := by decide +kernel
theorem dX2_resolve_144 : decode cX2_resolve 144 = .ok (.ifCond .eq 8, 3) := by decide +kernel
theorem dX2_resolve_147 : decode cX2_resolve 147 = .ok (.iload 5, 2) := by decide +kernel
theorem dX2_resolve_149 : decode cX2_resolve 149 = .ok (.goto 5, 3) := by decide +kernel
theorem dX2_resolve_152 : decode cX2_resolve 152 = .ok (.iload 4, 2) := by decide +kernel
theorem dX2_resolve_154 : decode cX2_resolve 154 = .ok (.invokevirtual 57, 3) := by decide +kernel
theorem dX2_resolve_157 : decode cX2_resolve 157 = .ok (.istore 9, 2) := by decide +kernel
theorem dX2_resolve_159 : decode cX2_resolve 159 = .ok (.iload 9, 2) := by decide +kernel
theorem dX2_resolve_161 : decode cX2_resolve 161 = .ok (.iconst (-1), 1) := by decide +kernel
theorem dX2_resolve_162 : decode cX2_resolve 162 = .ok (.if_icmp .ne 12, 3) := by decide +kernel
theorem dX2_resolve_165 : decode cX2_resolve 165 = .ok (.aload_n 0, 1) := by decide +kernel
theorem dX2_resolve_166 : decode cX2_resolve 166 = .ok (.iload 8, 2) := by decide +kernel
theorem dX2_resolve_168 : decode cX2_resolve 168 = .ok (.invokevirtual 50, 3) := by decide +kernel
theorem dX2_resolve_171 : decode cX2_resolve 171 = .ok (.goto 12, 3) := by decide +kernel
theorem dX2_resolve_174 : decode cX2_resolve 174 = .ok (.aload_n 2, 1) := by decide +kernel
theorem dX2_resolve_175 : decode cX2_resolve 175 = .ok (.getfield 88, 3) := by decide +kernel
theorem dX2_resolve_178 : decode cX2_resolve 178 = .ok (.iload 6, 2) := by decide +kernel
theorem dX2_resolve_180 : decode cX2_resolve 180 = .ok (.iload 9, 2) := by decide +kernel
theorem dX2_resolve_182 : decode cX2_resolve 182 = .ok (.iastore, 1) := by decide +kernel
theorem dX2_resolve_183 : decode cX2_resolve 183 = .ok (.iinc 6 1, 3) := by decide +kernel
theorem dX2_resolve_186 : decode cX2_resolve 186 = .ok (.goto (-139), 3) := by decide +kernel
theorem dX2_resolve_189 : decode cX2_resolve 189 = .ok (.iinc 3 1, 3) := by decide +kernel
theorem dX2_resolve_192 : decode cX2_resolve 192 = .ok (.goto (-190), 3) := by decide +kernel
theorem dX2_resolve_195 : decode cX2_resolve 195 = .ok (.return_, 1) := by decide +kernel
abbrev R_X2_resolve : Room := ({ frames := 2, cells := 0, slots := 0, locals := 85 } : Room)
def b_X2_resolve_183 (n : Nat) (rec : (Gs → Gs → Gs → Gs → Int32 → Option (Gs × Gs)) × (Gs → Gs → Gs → Gs → Int32 → Int32 → Int32 → Int32 → Option (Gs × Gs))) (gT : Gs) (gT_0 : Gs) (gP0 : Gs) (gP1 : Gs) (v3 : Int32) (v4 : Int32) (v5 : Int32) (v6 : Int32) : Option (Gs × Gs) :=
  rec.2 gT gT_0 gP0 gP1 v3 v4 v5 (v6 + (1 : Int32))
def b_X2_resolve_154 (n : Nat) (rec : (Gs → Gs → Gs → Gs → Int32 → Option (Gs × Gs)) × (Gs → Gs → Gs → Gs → Int32 → Int32 → Int32 → Int32 → Option (Gs × Gs))) (gT : Gs) (gT_0 : Gs) (gP0 : Gs) (gP1 : Gs) (v3 : Int32) (v4 : Int32) (v5 : Int32) (v6 : Int32) (v8 : Int32) (s0 : Int32) (s1 : Int32) (s2 : Int32) (s3 : Int32) : Option (Gs × Gs) :=
  bnd (f_X4_find n gP0 gT_0 s3 s2 s1 s0) (fun q_10 => if q_10 = (-1 : Int32) then (bnd (f_X2_refuse gT v8) (fun q_13 => b_X2_resolve_183 n rec q_13 gT_0 gP0 gP1 v3 v4 v5 v6)) else (grd (inB v6 840) (b_X2_resolve_183 n rec gT gT_0 gP0 (sIA gP1 5 (upd (gIA gP1 5) v6.toNatClampNeg q_10)) v3 v4 v5 v6)))
def b_X2_resolve_142 (n : Nat) (rec : (Gs → Gs → Gs → Gs → Int32 → Option (Gs × Gs)) × (Gs → Gs → Gs → Gs → Int32 → Int32 → Int32 → Int32 → Option (Gs × Gs))) (gT : Gs) (gT_0 : Gs) (gP0 : Gs) (gP1 : Gs) (v3 : Int32) (v4 : Int32) (v5 : Int32) (v6 : Int32) (v7 : Int32) (v8 : Int32) (s0 : Int32) (s1 : Int32) (s2 : Int32) : Option (Gs × Gs) :=
  if v7 = 0 then (b_X2_resolve_154 n rec gT gT_0 gP0 gP1 v3 v4 v5 v6 v8 v4 s0 s1 s2) else (b_X2_resolve_154 n rec gT gT_0 gP0 gP1 v3 v4 v5 v6 v8 v5 s0 s1 s2)
def b_X2_resolve_108 (n : Nat) (rec : (Gs → Gs → Gs → Gs → Int32 → Option (Gs × Gs)) × (Gs → Gs → Gs → Gs → Int32 → Int32 → Int32 → Int32 → Option (Gs × Gs))) (gT : Gs) (gT_0 : Gs) (gP0 : Gs) (gP1 : Gs) (v3 : Int32) (v4 : Int32) (v5 : Int32) (v6 : Int32) (v7 : Int32) : Option (Gs × Gs) :=
  grd (inB v6 840) (grd (inB v6 840) (if v7 = 0 then (b_X2_resolve_142 n rec gT gT_0 gP0 gP1 v3 v4 v5 v6 v7 (gIA gP1 5 v6.toNatClampNeg) (0 : Int32) (gIA gP1 3 v6.toNatClampNeg) (gIA gP1 5 v6.toNatClampNeg)) else (b_X2_resolve_142 n rec gT gT_0 gP0 gP1 v3 v4 v5 v6 v7 (gIA gP1 5 v6.toNatClampNeg) (52 : Int32) (gIA gP1 3 v6.toNatClampNeg) (gIA gP1 5 v6.toNatClampNeg))))
def b_X2_resolve_74 (n : Nat) (rec : (Gs → Gs → Gs → Gs → Int32 → Option (Gs × Gs)) × (Gs → Gs → Gs → Gs → Int32 → Int32 → Int32 → Int32 → Option (Gs × Gs))) (gT : Gs) (gT_0 : Gs) (gP0 : Gs) (gP1 : Gs) (v3 : Int32) (v4 : Int32) (v5 : Int32) (v6 : Int32) (s0 : Int32) : Option (Gs × Gs) :=
  if s0 = 0 then (grd (inB v6 840) (if (gIA gP1 0 v6.toNatClampNeg) = (63 : Int32) then (b_X2_resolve_108 n rec gT gT_0 gP0 gP1 v3 v4 v5 v6 s0) else (grd (inB v6 840) (if (gIA gP1 0 v6.toNatClampNeg) = (16 : Int32) then (b_X2_resolve_108 n rec gT gT_0 gP0 gP1 v3 v4 v5 v6 s0) else (b_X2_resolve_183 n rec gT gT_0 gP0 gP1 v3 v4 v5 v6))))) else (b_X2_resolve_108 n rec gT gT_0 gP0 gP1 v3 v4 v5 v6 s0)
def h_X2_resolve_47 (n : Nat) (rec : (Gs → Gs → Gs → Gs → Int32 → Option (Gs × Gs)) × (Gs → Gs → Gs → Gs → Int32 → Int32 → Int32 → Int32 → Option (Gs × Gs))) (gT : Gs) (gT_0 : Gs) (gP0 : Gs) (gP1 : Gs) (v3 : Int32) (v4 : Int32) (v5 : Int32) (v6 : Int32) : Option (Gs × Gs) :=
  bnd (f_X0_endOf gP1 v3) (fun q_5 => if q_5 ≤ v6 then (rec.1 gT gT_0 gP0 gP1 (v3 + (1 : Int32))) else (grd (inB v6 840) (if (gIA gP1 0 v6.toNatClampNeg) = (64 : Int32) then (b_X2_resolve_74 n rec gT gT_0 gP0 gP1 v3 v4 v5 v6 (1 : Int32)) else (b_X2_resolve_74 n rec gT gT_0 gP0 gP1 v3 v4 v5 v6 (0 : Int32)))))
def h_X2_resolve_2 (n : Nat) (rec : (Gs → Gs → Gs → Gs → Int32 → Option (Gs × Gs)) × (Gs → Gs → Gs → Gs → Int32 → Int32 → Int32 → Int32 → Option (Gs × Gs))) (gT : Gs) (gT_0 : Gs) (gP0 : Gs) (gP1 : Gs) (v3 : Int32) : Option (Gs × Gs) :=
  if (gI gP1 18) ≤ v3 then (some (gT, gP1)) else (grd (inB v3 92) (grd (inB v3 92) (bnd (f_X0_beginOf gP1 v3) (fun q_3 => rec.2 gT gT_0 gP0 gP1 v3 (if (gI gP0 4) < (gIA gP1 15 v3.toNatClampNeg) then (gI gP0 4) else (gIA gP1 15 v3.toNatClampNeg)) (if (gI gP0 6) < (gIA gP1 16 v3.toNatClampNeg) then (gI gP0 6) else (gIA gP1 16 v3.toNatClampNeg)) q_3))))
def L_X2_resolve (n : Nat) : Nat → ((Gs → Gs → Gs → Gs → Int32 → Option (Gs × Gs)) × (Gs → Gs → Gs → Gs → Int32 → Int32 → Int32 → Int32 → Option (Gs × Gs)))
  | 0 => ((fun _ _ _ _ _ => none), (fun _ _ _ _ _ _ _ _ => none))
  | k + 1 => (h_X2_resolve_2 n (L_X2_resolve n k), h_X2_resolve_47 n (L_X2_resolve n k))
def f_X2_resolve (n : Nat) (gT : Gs) (gT_0 : Gs) (gP0 : Gs) (gP1 : Gs) : Option (Gs × Gs) :=
  (L_X2_resolve n n).1 gT gT_0 gP0 gP1 (0 : Int32)
def S_X2_resolve_183 (l : Launch) (D : Dx) (hT : Nat) (aT : Nat → Nat) (yT : Nat → ClassId) (aT_0 : Nat → Nat) (yT_0 : Nat → ClassId) (hP0 : Nat) (aP0 : Nat → Nat) (yP0 : Nat → ClassId) (hP1 : Nat) (aP1 : Nat → Nat) (yP1 : Nat → ClassId) (fn : Gs → Gs → Gs → Gs → Int32 → Int32 → Int32 → Int32 → Option (Gs × Gs)) : Prop :=
  ∀ {p : Program} {e : Env} {s : State} {m : MethodId} {args : Array Value} {below : List Frame} {meth : Method} {c : Code} {H : Heap} {locs : List Loc} {A : Nat → Prop} {ls : Array Slot} {gT : Gs} {gT_0 : Gs} {gP0 : Gs} {gP1 : Gs} {v3 : Int32} {v4 : Int32} {v5 : Int32} {v6 : Int32} {q : Gs × Gs}, Cx p s m args meth c cX2_resolve none 10 RX2 lw_all → Hx D (tX2 yT ++ (tTP yT_0 ++ (tX4 yP0 ++ (tX0 yP1)))) A s H locs (wX2 hT aT yT gT ++ (wTP (aT 0) aT_0 yT_0 gT_0 ++ (wX4 hP0 aP0 yP0 gP0 ++ (wX0 hP1 aP1 yP1 gP1)))) → lv_has ls 10 [(0, .ref hT), (1, .ref hP0), (2, .ref hP1), (3, .int v3), (4, .int v4), (5, .int v5), (6, .int v6)] → fn gT gT_0 gP0 gP1 v3 v4 v5 v6 = some q → W p l e R_X2_resolve s m args below meth c H locs 0 0 (MQ below (QV D A (wX2 hT aT yT q.1 ++ (wTP (aT 0) aT_0 yT_0 gT_0 ++ (wX4 hP0 aP0 yP0 gP0 ++ (wX0 hP1 aP1 yP1 q.2))))) args s 0 0 A) (F0 m 183 ls [])
def S_X2_resolve_154 (l : Launch) (D : Dx) (hT : Nat) (aT : Nat → Nat) (yT : Nat → ClassId) (aT_0 : Nat → Nat) (yT_0 : Nat → ClassId) (hP0 : Nat) (aP0 : Nat → Nat) (yP0 : Nat → ClassId) (hP1 : Nat) (aP1 : Nat → Nat) (yP1 : Nat → ClassId) (fn : Gs → Gs → Gs → Gs → Int32 → Int32 → Int32 → Int32 → Int32 → Int32 → Int32 → Int32 → Int32 → Option (Gs × Gs)) : Prop :=
  ∀ {p : Program} {e : Env} {s : State} {m : MethodId} {args : Array Value} {below : List Frame} {meth : Method} {c : Code} {H : Heap} {locs : List Loc} {A : Nat → Prop} {ls : Array Slot} {gT : Gs} {gT_0 : Gs} {gP0 : Gs} {gP1 : Gs} {v3 : Int32} {v4 : Int32} {v5 : Int32} {v6 : Int32} {v8 : Int32} {s0 : Int32} {s1 : Int32} {s2 : Int32} {s3 : Int32} {q : Gs × Gs}, Cx p s m args meth c cX2_resolve none 10 RX2 lw_all → Hx D (tX2 yT ++ (tTP yT_0 ++ (tX4 yP0 ++ (tX0 yP1)))) A s H locs (wX2 hT aT yT gT ++ (wTP (aT 0) aT_0 yT_0 gT_0 ++ (wX4 hP0 aP0 yP0 gP0 ++ (wX0 hP1 aP1 yP1 gP1)))) → lv_has ls 10 [(0, .ref hT), (1, .ref hP0), (2, .ref hP1), (3, .int v3), (4, .int v4), (5, .int v5), (6, .int v6), (8, .int v8)] → fn gT gT_0 gP0 gP1 v3 v4 v5 v6 v8 s0 s1 s2 s3 = some q → W p l e R_X2_resolve s m args below meth c H locs 0 0 (MQ below (QV D A (wX2 hT aT yT q.1 ++ (wTP (aT 0) aT_0 yT_0 gT_0 ++ (wX4 hP0 aP0 yP0 gP0 ++ (wX0 hP1 aP1 yP1 q.2))))) args s 0 0 A) (F0 m 154 ls [.int s0, .int s1, .int s2, .int s3, .ref (aT 0), .ref hP0])
def S_X2_resolve_142 (l : Launch) (D : Dx) (hT : Nat) (aT : Nat → Nat) (yT : Nat → ClassId) (aT_0 : Nat → Nat) (yT_0 : Nat → ClassId) (hP0 : Nat) (aP0 : Nat → Nat) (yP0 : Nat → ClassId) (hP1 : Nat) (aP1 : Nat → Nat) (yP1 : Nat → ClassId) (fn : Gs → Gs → Gs → Gs → Int32 → Int32 → Int32 → Int32 → Int32 → Int32 → Int32 → Int32 → Int32 → Option (Gs × Gs)) : Prop :=
  ∀ {p : Program} {e : Env} {s : State} {m : MethodId} {args : Array Value} {below : List Frame} {meth : Method} {c : Code} {H : Heap} {locs : List Loc} {A : Nat → Prop} {ls : Array Slot} {gT : Gs} {gT_0 : Gs} {gP0 : Gs} {gP1 : Gs} {v3 : Int32} {v4 : Int32} {v5 : Int32} {v6 : Int32} {v7 : Int32} {v8 : Int32} {s0 : Int32} {s1 : Int32} {s2 : Int32} {q : Gs × Gs}, Cx p s m args meth c cX2_resolve none 10 RX2 lw_all → Hx D (tX2 yT ++ (tTP yT_0 ++ (tX4 yP0 ++ (tX0 yP1)))) A s H locs (wX2 hT aT yT gT ++ (wTP (aT 0) aT_0 yT_0 gT_0 ++ (wX4 hP0 aP0 yP0 gP0 ++ (wX0 hP1 aP1 yP1 gP1)))) → lv_has ls 10 [(0, .ref hT), (1, .ref hP0), (2, .ref hP1), (3, .int v3), (4, .int v4), (5, .int v5), (6, .int v6), (7, .int v7), (8, .int v8)] → fn gT gT_0 gP0 gP1 v3 v4 v5 v6 v7 v8 s0 s1 s2 = some q → W p l e R_X2_resolve s m args below meth c H locs 0 0 (MQ below (QV D A (wX2 hT aT yT q.1 ++ (wTP (aT 0) aT_0 yT_0 gT_0 ++ (wX4 hP0 aP0 yP0 gP0 ++ (wX0 hP1 aP1 yP1 q.2))))) args s 0 0 A) (F0 m 142 ls [.int s0, .int s1, .int s2, .ref (aT 0), .ref hP0])
def S_X2_resolve_108 (l : Launch) (D : Dx) (hT : Nat) (aT : Nat → Nat) (yT : Nat → ClassId) (aT_0 : Nat → Nat) (yT_0 : Nat → ClassId) (hP0 : Nat) (aP0 : Nat → Nat) (yP0 : Nat → ClassId) (hP1 : Nat) (aP1 : Nat → Nat) (yP1 : Nat → ClassId) (fn : Gs → Gs → Gs → Gs → Int32 → Int32 → Int32 → Int32 → Int32 → Option (Gs × Gs)) : Prop :=
  ∀ {p : Program} {e : Env} {s : State} {m : MethodId} {args : Array Value} {below : List Frame} {meth : Method} {c : Code} {H : Heap} {locs : List Loc} {A : Nat → Prop} {ls : Array Slot} {gT : Gs} {gT_0 : Gs} {gP0 : Gs} {gP1 : Gs} {v3 : Int32} {v4 : Int32} {v5 : Int32} {v6 : Int32} {v7 : Int32} {q : Gs × Gs}, Cx p s m args meth c cX2_resolve none 10 RX2 lw_all → Hx D (tX2 yT ++ (tTP yT_0 ++ (tX4 yP0 ++ (tX0 yP1)))) A s H locs (wX2 hT aT yT gT ++ (wTP (aT 0) aT_0 yT_0 gT_0 ++ (wX4 hP0 aP0 yP0 gP0 ++ (wX0 hP1 aP1 yP1 gP1)))) → lv_has ls 10 [(0, .ref hT), (1, .ref hP0), (2, .ref hP1), (3, .int v3), (4, .int v4), (5, .int v5), (6, .int v6), (7, .int v7)] → fn gT gT_0 gP0 gP1 v3 v4 v5 v6 v7 = some q → W p l e R_X2_resolve s m args below meth c H locs 0 0 (MQ below (QV D A (wX2 hT aT yT q.1 ++ (wTP (aT 0) aT_0 yT_0 gT_0 ++ (wX4 hP0 aP0 yP0 gP0 ++ (wX0 hP1 aP1 yP1 q.2))))) args s 0 0 A) (F0 m 108 ls [])
def S_X2_resolve_74 (l : Launch) (D : Dx) (hT : Nat) (aT : Nat → Nat) (yT : Nat → ClassId) (aT_0 : Nat → Nat) (yT_0 : Nat → ClassId) (hP0 : Nat) (aP0 : Nat → Nat) (yP0 : Nat → ClassId) (hP1 : Nat) (aP1 : Nat → Nat) (yP1 : Nat → ClassId) (fn : Gs → Gs → Gs → Gs → Int32 → Int32 → Int32 → Int32 → Int32 → Option (Gs × Gs)) : Prop :=
  ∀ {p : Program} {e : Env} {s : State} {m : MethodId} {args : Array Value} {below : List Frame} {meth : Method} {c : Code} {H : Heap} {locs : List Loc} {A : Nat → Prop} {ls : Array Slot} {gT : Gs} {gT_0 : Gs} {gP0 : Gs} {gP1 : Gs} {v3 : Int32} {v4 : Int32} {v5 : Int32} {v6 : Int32} {s0 : Int32} {q : Gs × Gs}, Cx p s m args meth c cX2_resolve none 10 RX2 lw_all → Hx D (tX2 yT ++ (tTP yT_0 ++ (tX4 yP0 ++ (tX0 yP1)))) A s H locs (wX2 hT aT yT gT ++ (wTP (aT 0) aT_0 yT_0 gT_0 ++ (wX4 hP0 aP0 yP0 gP0 ++ (wX0 hP1 aP1 yP1 gP1)))) → lv_has ls 10 [(0, .ref hT), (1, .ref hP0), (2, .ref hP1), (3, .int v3), (4, .int v4), (5, .int v5), (6, .int v6)] → fn gT gT_0 gP0 gP1 v3 v4 v5 v6 s0 = some q → W p l e R_X2_resolve s m args below meth c H locs 0 0 (MQ below (QV D A (wX2 hT aT yT q.1 ++ (wTP (aT 0) aT_0 yT_0 gT_0 ++ (wX4 hP0 aP0 yP0 gP0 ++ (wX0 hP1 aP1 yP1 q.2))))) args s 0 0 A) (F0 m 74 ls [.int s0])
def S_X2_resolve_47 (l : Launch) (D : Dx) (hT : Nat) (aT : Nat → Nat) (yT : Nat → ClassId) (aT_0 : Nat → Nat) (yT_0 : Nat → ClassId) (hP0 : Nat) (aP0 : Nat → Nat) (yP0 : Nat → ClassId) (hP1 : Nat) (aP1 : Nat → Nat) (yP1 : Nat → ClassId) (fn : Gs → Gs → Gs → Gs → Int32 → Int32 → Int32 → Int32 → Option (Gs × Gs)) : Prop :=
  ∀ {p : Program} {e : Env} {s : State} {m : MethodId} {args : Array Value} {below : List Frame} {meth : Method} {c : Code} {H : Heap} {locs : List Loc} {A : Nat → Prop} {ls : Array Slot} {gT : Gs} {gT_0 : Gs} {gP0 : Gs} {gP1 : Gs} {v3 : Int32} {v4 : Int32} {v5 : Int32} {v6 : Int32} {q : Gs × Gs}, Cx p s m args meth c cX2_resolve none 10 RX2 lw_all → Hx D (tX2 yT ++ (tTP yT_0 ++ (tX4 yP0 ++ (tX0 yP1)))) A s H locs (wX2 hT aT yT gT ++ (wTP (aT 0) aT_0 yT_0 gT_0 ++ (wX4 hP0 aP0 yP0 gP0 ++ (wX0 hP1 aP1 yP1 gP1)))) → lv_has ls 10 [(0, .ref hT), (1, .ref hP0), (2, .ref hP1), (3, .int v3), (4, .int v4), (5, .int v5), (6, .int v6)] → fn gT gT_0 gP0 gP1 v3 v4 v5 v6 = some q → W p l e R_X2_resolve s m args below meth c H locs 0 0 (MQ below (QV D A (wX2 hT aT yT q.1 ++ (wTP (aT 0) aT_0 yT_0 gT_0 ++ (wX4 hP0 aP0 yP0 gP0 ++ (wX0 hP1 aP1 yP1 q.2))))) args s 0 0 A) (F0 m 47 ls [])
def S_X2_resolve_2 (l : Launch) (D : Dx) (hT : Nat) (aT : Nat → Nat) (yT : Nat → ClassId) (aT_0 : Nat → Nat) (yT_0 : Nat → ClassId) (hP0 : Nat) (aP0 : Nat → Nat) (yP0 : Nat → ClassId) (hP1 : Nat) (aP1 : Nat → Nat) (yP1 : Nat → ClassId) (fn : Gs → Gs → Gs → Gs → Int32 → Option (Gs × Gs)) : Prop :=
  ∀ {p : Program} {e : Env} {s : State} {m : MethodId} {args : Array Value} {below : List Frame} {meth : Method} {c : Code} {H : Heap} {locs : List Loc} {A : Nat → Prop} {ls : Array Slot} {gT : Gs} {gT_0 : Gs} {gP0 : Gs} {gP1 : Gs} {v3 : Int32} {q : Gs × Gs}, Cx p s m args meth c cX2_resolve none 10 RX2 lw_all → Hx D (tX2 yT ++ (tTP yT_0 ++ (tX4 yP0 ++ (tX0 yP1)))) A s H locs (wX2 hT aT yT gT ++ (wTP (aT 0) aT_0 yT_0 gT_0 ++ (wX4 hP0 aP0 yP0 gP0 ++ (wX0 hP1 aP1 yP1 gP1)))) → lv_has ls 10 [(0, .ref hT), (1, .ref hP0), (2, .ref hP1), (3, .int v3)] → fn gT gT_0 gP0 gP1 v3 = some q → W p l e R_X2_resolve s m args below meth c H locs 0 0 (MQ below (QV D A (wX2 hT aT yT q.1 ++ (wTP (aT 0) aT_0 yT_0 gT_0 ++ (wX4 hP0 aP0 yP0 gP0 ++ (wX0 hP1 aP1 yP1 q.2))))) args s 0 0 A) (F0 m 2 ls [])
def SH_X2_resolve (l : Launch) (D : Dx) (hT : Nat) (aT : Nat → Nat) (yT : Nat → ClassId) (aT_0 : Nat → Nat) (yT_0 : Nat → ClassId) (hP0 : Nat) (aP0 : Nat → Nat) (yP0 : Nat → ClassId) (hP1 : Nat) (aP1 : Nat → Nat) (yP1 : Nat → ClassId) (rec : (Gs → Gs → Gs → Gs → Int32 → Option (Gs × Gs)) × (Gs → Gs → Gs → Gs → Int32 → Int32 → Int32 → Int32 → Option (Gs × Gs))) : Prop := S_X2_resolve_2 l D hT aT yT aT_0 yT_0 hP0 aP0 yP0 hP1 aP1 yP1 rec.1 ∧ S_X2_resolve_47 l D hT aT yT aT_0 yT_0 hP0 aP0 yP0 hP1 aP1 yP1 rec.2
set_option maxHeartbeats 4000000 in
set_option maxRecDepth 100000 in
theorem k_X2_resolve_183 (l : Launch) (D : Dx) (hT : Nat) (aT : Nat → Nat) (yT : Nat → ClassId) (aT_0 : Nat → Nat) (yT_0 : Nat → ClassId) (hP0 : Nat) (aP0 : Nat → Nat) (yP0 : Nat → ClassId) (hP1 : Nat) (aP1 : Nat → Nat) (yP1 : Nat → ClassId) (n : Nat) (rec : (Gs → Gs → Gs → Gs → Int32 → Option (Gs × Gs)) × (Gs → Gs → Gs → Gs → Int32 → Int32 → Int32 → Int32 → Option (Gs × Gs))) (IH : SH_X2_resolve l D hT aT yT aT_0 yT_0 hP0 aP0 yP0 hP1 aP1 yP1 rec) : S_X2_resolve_183 l D hT aT yT aT_0 yT_0 hP0 aP0 yP0 hP1 aP1 yP1 (b_X2_resolve_183 n rec) := by
  intro p e s m args below meth c H locs A ls gT gT_0 gP0 gP1 v3 v4 v5 v6 q C X hl hF
  obtain ⟨hx, hb, hr, hml, hown, hts, hlk⟩ := id C
  unfold b_X2_resolve_183 at hF
  refine lv_iinc (v := v6 + (1 : Int32)) (lv' := [(6, .int (v6 + (1 : Int32))), (0, .ref hT), (1, .ref hP0), (2, .ref hP1), (3, .int v3), (4, .int v4), (5, .int v5)]) hx hb dX2_resolve_183 hl (k := 6) rfl rfl (by decide) rfl (fun ls hl => ?_)
  refine lv_goto (tgt := 47) hx hb dX2_resolve_186 (by decide) ?_
  exact IH.2 C X (lv_sub hl [1, 2, 3, 4, 5, 6, 0] rfl) hF
set_option maxHeartbeats 4000000 in
set_option maxRecDepth 100000 in
theorem k_X2_resolve_154 (l : Launch) (D : Dx) (hT : Nat) (aT : Nat → Nat) (yT : Nat → ClassId) (aT_0 : Nat → Nat) (yT_0 : Nat → ClassId) (hP0 : Nat) (aP0 : Nat → Nat) (yP0 : Nat → ClassId) (hP1 : Nat) (aP1 : Nat → Nat) (yP1 : Nat → ClassId) (n : Nat) (rec : (Gs → Gs → Gs → Gs → Int32 → Option (Gs × Gs)) × (Gs → Gs → Gs → Gs → Int32 → Int32 → Int32 → Int32 → Option (Gs × Gs))) (IH : SH_X2_resolve l D hT aT yT aT_0 yT_0 hP0 aP0 yP0 hP1 aP1 yP1 rec) : S_X2_resolve_154 l D hT aT yT aT_0 yT_0 hP0 aP0 yP0 hP1 aP1 yP1 (b_X2_resolve_154 n rec) := by
  intro p e s m args below meth c H locs A ls gT gT_0 gP0 gP1 v3 v4 v5 v6 v8 s0 s1 s2 s3 q C X hl hF
  obtain ⟨hx, hb, hr, hml, hown, hts, hlk⟩ := id C
  unfold b_X2_resolve_154 at hF
  obtain ⟨q_10, hc_11, hF⟩ := bnd_some hF
  refine cV_i (As := [.ref (aT 0), .int s3, .int s2, .int s1, .int s0]) (rest := []) C X (c_X4_find l D hP0 aP0 yP0 (aT 0) aT_0 yT_0 n gP0 gT_0 s3 s2 s1 s0 q_10 hc_11 _) (cwV 5 hts (good_V q4_188 q4_189 q4_190 q1_7 q4_191) rfl rfl rfl (by decide +kernel) ⟨Nat.le_of_ble_eq_true rfl, Nat.le_of_ble_eq_true rfl⟩) (va_recv X.1 X.2.1 (ci := 4) (q0 := 2) rfl rfl) (X.1.sub (tys' := tX4 yP0 ++ (tTP yT_0)) [1, 2, 3, 4, 5, 6, 7, 8, 9, 10, 0] rfl) (X.2.1.sub (ws' := wX4 hP0 aP0 yP0 gP0 ++ (wTP (aT 0) aT_0 yT_0 gT_0)) [2, 3, 4, 5, 6, 7, 8, 9, 10, 11, 12, 1] rfl) (X.2.2.1.sub (ws' := wX4 hP0 aP0 yP0 gP0 ++ (wTP (aT 0) aT_0 yT_0 gT_0)) [2, 3, 4, 5, 6, 7, 8, 9, 10, 11, 12, 1] (by decide) rfl) (free_of (wC := wX4 hP0 aP0 yP0 gP0 ++ (wTP (aT 0) aT_0 yT_0 gT_0)) (isC := [2, 3, 4, 5, 6, 7, 8, 9, 10, 11, 12, 1]) X rfl) hl.1 rfl rfl (Nat.le_of_ble_eq_true rfl) dX2_resolve_154 ⟨Nat.le_of_ble_eq_true rfl, Nat.le_of_ble_eq_true rfl⟩ (fun t H1 locs1 ht hB hk hS => ?_)
  have X : Hx D (tX2 yT ++ (tTP yT_0 ++ (tX4 yP0 ++ (tX0 yP1)))) A s H1 locs1 (wX2 hT aT yT gT ++ (wTP (aT 0) aT_0 yT_0 gT_0 ++ (wX4 hP0 aP0 yP0 gP0 ++ (wX0 hP1 aP1 yP1 gP1)))) := Hx_after (isC := [2, 3, 4, 5, 6, 7, 8, 9, 10, 11, 12, 1]) (isR := [0, 13, 14, 15, 16, 17, 18, 19, 20, 21, 22, 23, 24, 25, 26, 27, 28]) (pm := [0, 28, 17, 18, 19, 20, 21, 22, 23, 24, 25, 26, 27, 1, 2, 3, 4, 5, 6, 7, 8, 9, 10, 11, 12, 13, 14, 15, 16]) (wr := wX2 hT aT yT gT ++ (wX0 hP1 aP1 yP1 gP1)) X ⟨rfl, rfl, by decide, by decide, rfl, by decide⟩ ht hB hk hS
  clear hk hS ht hB
  generalize H1 = H at X ⊢
  generalize locs1 = locs at X ⊢
  refine lv_istore (lv' := [(9, .int q_10), (0, .ref hT), (1, .ref hP0), (2, .ref hP1), (3, .int v3), (4, .int v4), (5, .int v5), (6, .int v6), (8, .int v8)]) hx hb dX2_resolve_157 hl (by decide) rfl (fun ls hl => ?_)
  refine lv_iload hx hb dX2_resolve_159 (lv_at hl 0 rfl) ?_
  refine lv_iconst (v := (-1 : Int32)) hx hb dX2_resolve_161 (by decide) ?_
  refine lv_icmp_ne (tgt := 174) hx hb dX2_resolve_162 (by decide) (fun c => ?_) (fun c => ?_)
  · replace hF := iF c hF
    refine lv_aload_n hx hb dX2_resolve_174 rfl (lv_at hl 3 rfl) ?_
    refine va_getN (D := D.1) (ci := 0) (v := .ref (aP1 5)) (C := RX0) (T := TX0) (N := 19) hx hb hts wi_X0 hown X.1 X.2.1 13 rfl rfl 5 (by decide) (X.2.2.2.2.2.1.use q1_229 rfl) (fun _ h9 => h9) (fl_get (by decide)) dX2_resolve_175 ?_
    refine lv_iload hx hb dX2_resolve_178 (lv_at hl 7 rfl) ?_
    refine lv_iload hx hb dX2_resolve_180 (lv_at hl 0 rfl) ?_
    obtain ⟨h_12, hF⟩ := grd_some hF
    refine va_iast (D := D.1) (f := gIA gP1 5) hx hb X.1 X.2.1 X.2.2.1 X.2.2.2.1 19 16 rfl rfl (inB_ok h_12) dX2_resolve_182 (fun H locs hP hD hS => ?_)
    have X : Hx D (tX2 yT ++ (tTP yT_0 ++ (tX4 yP0 ++ (tX0 yP1)))) A s H locs (wX2 hT aT yT gT ++ (wTP (aT 0) aT_0 yT_0 gT_0 ++ (wX4 hP0 aP0 yP0 gP0 ++ (wX0 hP1 aP1 yP1 (sIA gP1 5 (upd (gIA gP1 5) v6.toNatClampNeg q_10)))))) := Hx_set X (set_r (n := 1) (i := 18) (j := 19) (wG_len rfl) rfl (set_r (n := 1) (i := 17) (j := 18) (rfl) rfl (set_r (n := 11) (i := 6) (j := 17) (wG_len rfl) rfl (wG_sIA (i := 5) (k := 5) ndX0 rfl rfl)))) hP hD hS
    exact (k_X2_resolve_183 l D hT aT yT aT_0 yT_0 hP0 aP0 yP0 hP1 aP1 yP1 n rec IH) C X (lv_sub hl [1, 2, 3, 4, 5, 6, 7] rfl) hF
  · replace hF := iT c hF
    refine lv_aload_n hx hb dX2_resolve_165 rfl (lv_at hl 1 rfl) ?_
    refine lv_iload hx hb dX2_resolve_166 (lv_at hl 8 rfl) ?_
    obtain ⟨q_13, hc_14, hF⟩ := bnd_some hF
    refine cV_v (As := [.int v8]) (rest := []) C X (c_X2_refuse l D hT aT yT gT v8 q_13 hc_14 _) (cwV 1 hts (good_V q4_196 q4_198 q0_39 q1_13 q4_199) rfl rfl rfl (by decide +kernel) ⟨Nat.le_of_ble_eq_true rfl, Nat.le_of_ble_eq_true rfl⟩) (va_recv X.1 X.2.1 (ci := 2) (q0 := 0) rfl rfl) (X.1.sub (tys' := tX2 yT) [] rfl) (X.2.1.sub (ws' := wX2 hT aT yT gT) [0] rfl) (X.2.2.1.sub (ws' := wX2 hT aT yT gT) [0] (by decide) rfl) (free_of (wC := wX2 hT aT yT gT) (isC := [0]) X rfl) hl.1 rfl rfl (Nat.le_of_ble_eq_true rfl) dX2_resolve_168 ⟨Nat.le_of_ble_eq_true rfl, Nat.le_of_ble_eq_true rfl⟩ (fun t H1 locs1 ht hB hk hS => ?_)
    have X : Hx D (tX2 yT ++ (tTP yT_0 ++ (tX4 yP0 ++ (tX0 yP1)))) A s H1 locs1 (wX2 hT aT yT q_13 ++ (wTP (aT 0) aT_0 yT_0 gT_0 ++ (wX4 hP0 aP0 yP0 gP0 ++ (wX0 hP1 aP1 yP1 gP1)))) := Hx_after (isC := [0]) (isR := [1, 2, 3, 4, 5, 6, 7, 8, 9, 10, 11, 12, 13, 14, 15, 16, 17, 18, 19, 20, 21, 22, 23, 24, 25, 26, 27, 28]) (pm := [28, 0, 1, 2, 3, 4, 5, 6, 7, 8, 9, 10, 11, 12, 13, 14, 15, 16, 17, 18, 19, 20, 21, 22, 23, 24, 25, 26, 27]) (wr := wTP (aT 0) aT_0 yT_0 gT_0 ++ (wX4 hP0 aP0 yP0 gP0 ++ (wX0 hP1 aP1 yP1 gP1))) X ⟨rfl, rfl, by decide, by decide, rfl, by decide⟩ ht hB hk hS
    clear hk hS ht hB
    generalize H1 = H at X ⊢
    generalize locs1 = locs at X ⊢
    refine lv_goto (tgt := 183) hx hb dX2_resolve_171 (by decide) ?_
    exact (k_X2_resolve_183 l D hT aT yT aT_0 yT_0 hP0 aP0 yP0 hP1 aP1 yP1 n rec IH) C X (lv_sub hl [1, 2, 3, 4, 5, 6, 7] rfl) hF
set_option maxHeartbeats 4000000 in
set_option maxRecDepth 100000 in
theorem k_X2_resolve_142 (l : Launch) (D : Dx) (hT : Nat) (aT : Nat → Nat) (yT : Nat → ClassId) (aT_0 : Nat → Nat) (yT_0 : Nat → ClassId) (hP0 : Nat) (aP0 : Nat → Nat) (yP0 : Nat → ClassId) (hP1 : Nat) (aP1 : Nat → Nat) (yP1 : Nat → ClassId) (n : Nat) (rec : (Gs → Gs → Gs → Gs → Int32 → Option (Gs × Gs)) × (Gs → Gs → Gs → Gs → Int32 → Int32 → Int32 → Int32 → Option (Gs × Gs))) (IH : SH_X2_resolve l D hT aT yT aT_0 yT_0 hP0 aP0 yP0 hP1 aP1 yP1 rec) : S_X2_resolve_142 l D hT aT yT aT_0 yT_0 hP0 aP0 yP0 hP1 aP1 yP1 (b_X2_resolve_142 n rec) := by
  intro p e s m args below meth c H locs A ls gT gT_0 gP0 gP1 v3 v4 v5 v6 v7 v8 s0 s1 s2 q C X hl hF
  obtain ⟨hx, hb, hr, hml, hown, hts, hlk⟩ := id C
  unfold b_X2_resolve_142 at hF
  refine lv_iload hx hb dX2_resolve_142 (lv_at hl 7 rfl) ?_
  refine lv_if_eq (tgt := 152) hx hb dX2_resolve_144 (by decide) (fun c => ?_) (fun c => ?_)
  · replace hF := iT c hF
    refine lv_iload hx hb dX2_resolve_152 (lv_at hl 4 rfl) ?_
    exact (k_X2_resolve_154 l D hT aT yT aT_0 yT_0 hP0 aP0 yP0 hP1 aP1 yP1 n rec IH) C X (lv_sub hl [0, 1, 2, 3, 4, 5, 6, 8] rfl) hF
  · replace hF := iF c hF
    refine lv_iload hx hb dX2_resolve_147 (lv_at hl 5 rfl) ?_
    refine lv_goto (tgt := 154) hx hb dX2_resolve_149 (by decide) ?_
    exact (k_X2_resolve_154 l D hT aT yT aT_0 yT_0 hP0 aP0 yP0 hP1 aP1 yP1 n rec IH) C X (lv_sub hl [0, 1, 2, 3, 4, 5, 6, 8] rfl) hF
set_option maxHeartbeats 4000000 in
set_option maxRecDepth 100000 in
theorem k_X2_resolve_108 (l : Launch) (D : Dx) (hT : Nat) (aT : Nat → Nat) (yT : Nat → ClassId) (aT_0 : Nat → Nat) (yT_0 : Nat → ClassId) (hP0 : Nat) (aP0 : Nat → Nat) (yP0 : Nat → ClassId) (hP1 : Nat) (aP1 : Nat → Nat) (yP1 : Nat → ClassId) (n : Nat) (rec : (Gs → Gs → Gs → Gs → Int32 → Option (Gs × Gs)) × (Gs → Gs → Gs → Gs → Int32 → Int32 → Int32 → Int32 → Option (Gs × Gs))) (IH : SH_X2_resolve l D hT aT yT aT_0 yT_0 hP0 aP0 yP0 hP1 aP1 yP1 rec) : S_X2_resolve_108 l D hT aT yT aT_0 yT_0 hP0 aP0 yP0 hP1 aP1 yP1 (b_X2_resolve_108 n rec) := by
  intro p e s m args below meth c H locs A ls gT gT_0 gP0 gP1 v3 v4 v5 v6 v7 q C X hl hF
  obtain ⟨hx, hb, hr, hml, hown, hts, hlk⟩ := id C
  unfold b_X2_resolve_108 at hF
  refine lv_aload_n hx hb dX2_resolve_108 rfl (lv_at hl 2 rfl) ?_
  refine va_getN (D := D.1) (ci := 0) (v := .ref (aP1 5)) (C := RX0) (T := TX0) (N := 19) hx hb hts wi_X0 hown X.1 X.2.1 13 rfl rfl 5 (by decide) (X.2.2.2.2.2.1.use q1_229 rfl) (fun _ h9 => h9) (fl_get (by decide)) dX2_resolve_109 ?_
  refine lv_iload hx hb dX2_resolve_112 (lv_at hl 6 rfl) ?_
  obtain ⟨h_8, hF⟩ := grd_some hF
  refine va_iald (D := D.1) (f := gIA gP1 5) hx hb X.1 X.2.1 19 16 rfl rfl (inB_ok h_8) dX2_resolve_114 ?_
  refine lv_istore (lv' := [(8, .int (gIA gP1 5 v6.toNatClampNeg)), (0, .ref hT), (1, .ref hP0), (2, .ref hP1), (3, .int v3), (4, .int v4), (5, .int v5), (6, .int v6), (7, .int v7)]) hx hb dX2_resolve_115 hl (by decide) rfl (fun ls hl => ?_)
  refine lv_aload_n hx hb dX2_resolve_117 rfl (lv_at hl 2 rfl) ?_
  refine lv_aload_n hx hb dX2_resolve_118 rfl (lv_at hl 1 rfl) ?_
  refine va_get (D := D.1) (ci := 2) (v := .ref (aT 0)) (C := RX2) (T := TX2) (N := 2) hx hb hts wi_X2 hown X.1 X.2.1 0 rfl rfl 0 (by decide) (hts _ q3_44) (fun _ h9 => h9) (fl_get (by decide)) dX2_resolve_119 ?_
  refine lv_iload hx hb dX2_resolve_122 (lv_at hl 0 rfl) ?_
  refine lv_aload_n hx hb dX2_resolve_124 rfl (lv_at hl 3 rfl) ?_
  refine va_getN (D := D.1) (ci := 0) (v := .ref (aP1 3)) (C := RX0) (T := TX0) (N := 19) hx hb hts wi_X0 hown X.1 X.2.1 13 rfl rfl 3 (by decide) (X.2.2.2.2.2.1.use q1_221 rfl) (fun _ h9 => h9) (fl_get (by decide)) dX2_resolve_125 ?_
  refine lv_iload hx hb dX2_resolve_128 (lv_at hl 7 rfl) ?_
  obtain ⟨h_9, hF⟩ := grd_some hF
  refine va_iald (D := D.1) (f := gIA gP1 3) hx hb X.1 X.2.1 17 14 rfl rfl (inB_ok h_9) dX2_resolve_130 ?_
  refine lv_iload hx hb dX2_resolve_131 (lv_at hl 8 rfl) ?_
  refine lv_if_eq (tgt := 141) hx hb dX2_resolve_133 (by decide) (fun c => ?_) (fun c => ?_)
  · replace hF := iT c hF
    refine lv_iconst (v := (0 : Int32)) hx hb dX2_resolve_141 (by decide) ?_
    exact (k_X2_resolve_142 l D hT aT yT aT_0 yT_0 hP0 aP0 yP0 hP1 aP1 yP1 n rec IH) C X (lv_sub hl [1, 2, 3, 4, 5, 6, 7, 8, 0] rfl) hF
  · replace hF := iF c hF
    refine lv_bipush (v := (52 : Int32)) hx hb dX2_resolve_136 (by decide) ?_
    refine lv_goto (tgt := 142) hx hb dX2_resolve_138 (by decide) ?_
    exact (k_X2_resolve_142 l D hT aT yT aT_0 yT_0 hP0 aP0 yP0 hP1 aP1 yP1 n rec IH) C X (lv_sub hl [1, 2, 3, 4, 5, 6, 7, 8, 0] rfl) hF
set_option maxHeartbeats 4000000 in
set_option maxRecDepth 100000 in
theorem k_X2_resolve_74 (l : Launch) (D : Dx) (hT : Nat) (aT : Nat → Nat) (yT : Nat → ClassId) (aT_0 : Nat → Nat) (yT_0 : Nat → ClassId) (hP0 : Nat) (aP0 : Nat → Nat) (yP0 : Nat → ClassId) (hP1 : Nat) (aP1 : Nat → Nat) (yP1 : Nat → ClassId) (n : Nat) (rec : (Gs → Gs → Gs → Gs → Int32 → Option (Gs × Gs)) × (Gs → Gs → Gs → Gs → Int32 → Int32 → Int32 → Int32 → Option (Gs × Gs))) (IH : SH_X2_resolve l D hT aT yT aT_0 yT_0 hP0 aP0 yP0 hP1 aP1 yP1 rec) : S_X2_resolve_74 l D hT aT yT aT_0 yT_0 hP0 aP0 yP0 hP1 aP1 yP1 (b_X2_resolve_74 n rec) := by
  intro p e s m args below meth c H locs A ls gT gT_0 gP0 gP1 v3 v4 v5 v6 s0 q C X hl hF
  obtain ⟨hx, hb, hr, hml, hown, hts, hlk⟩ := id C
  unfold b_X2_resolve_74 at hF
  refine lv_istore (lv' := [(7, .int s0), (0, .ref hT), (1, .ref hP0), (2, .ref hP1), (3, .int v3), (4, .int v4), (5, .int v5), (6, .int v6)]) hx hb dX2_resolve_74 hl (by decide) rfl (fun ls hl => ?_)
  refine lv_iload hx hb dX2_resolve_76 (lv_at hl 0 rfl) ?_
  refine lv_if_ne (tgt := 108) hx hb dX2_resolve_78 (by decide) (fun c => ?_) (fun c => ?_)
  · replace hF := iF c hF
    exact (k_X2_resolve_108 l D hT aT yT aT_0 yT_0 hP0 aP0 yP0 hP1 aP1 yP1 n rec IH) C X (lv_sub hl [1, 2, 3, 4, 5, 6, 7, 0] rfl) hF
  · replace hF := iT c hF
    refine lv_aload_n hx hb dX2_resolve_81 rfl (lv_at hl 3 rfl) ?_
    refine va_getN (D := D.1) (ci := 0) (v := .ref (aP1 0)) (C := RX0) (T := TX0) (N := 19) hx hb hts wi_X0 hown X.1 X.2.1 13 rfl rfl 0 (by decide) (X.2.2.2.2.2.1.use q1_210 rfl) (fun _ h9 => h9) (fl_get (by decide)) dX2_resolve_82 ?_
    refine lv_iload hx hb dX2_resolve_85 (lv_at hl 7 rfl) ?_
    obtain ⟨h_15, hF⟩ := grd_some hF
    refine va_iald (D := D.1) (f := gIA gP1 0) hx hb X.1 X.2.1 14 11 rfl rfl (inB_ok h_15) dX2_resolve_87 ?_
    refine lv_bipush (v := (63 : Int32)) hx hb dX2_resolve_88 (by decide) ?_
    refine lv_icmp_eq (tgt := 108) hx hb dX2_resolve_90 (by decide) (fun c => ?_) (fun c => ?_)
    · replace hF := iT c hF
      exact (k_X2_resolve_108 l D hT aT yT aT_0 yT_0 hP0 aP0 yP0 hP1 aP1 yP1 n rec IH) C X (lv_sub hl [1, 2, 3, 4, 5, 6, 7, 0] rfl) hF
    · replace hF := iF c hF
      refine lv_aload_n hx hb dX2_resolve_93 rfl (lv_at hl 3 rfl) ?_
      refine va_getN (D := D.1) (ci := 0) (v := .ref (aP1 0)) (C := RX0) (T := TX0) (N := 19) hx hb hts wi_X0 hown X.1 X.2.1 13 rfl rfl 0 (by decide) (X.2.2.2.2.2.1.use q1_210 rfl) (fun _ h9 => h9) (fl_get (by decide)) dX2_resolve_94 ?_
      refine lv_iload hx hb dX2_resolve_97 (lv_at hl 7 rfl) ?_
      obtain ⟨h_16, hF⟩ := grd_some hF
      refine va_iald (D := D.1) (f := gIA gP1 0) hx hb X.1 X.2.1 14 11 rfl rfl (inB_ok h_16) dX2_resolve_99 ?_
      refine lv_bipush (v := (16 : Int32)) hx hb dX2_resolve_100 (by decide) ?_
      refine lv_icmp_eq (tgt := 108) hx hb dX2_resolve_102 (by decide) (fun c => ?_) (fun c => ?_)
      · replace hF := iT c hF
        exact (k_X2_resolve_108 l D hT aT yT aT_0 yT_0 hP0 aP0 yP0 hP1 aP1 yP1 n rec IH) C X (lv_sub hl [1, 2, 3, 4, 5, 6, 7, 0] rfl) hF
      · replace hF := iF c hF
        refine lv_goto (tgt := 183) hx hb dX2_resolve_105 (by decide) ?_
        exact (k_X2_resolve_183 l D hT aT yT aT_0 yT_0 hP0 aP0 yP0 hP1 aP1 yP1 n rec IH) C X (lv_sub hl [1, 2, 3, 4, 5, 6, 7] rfl) hF
set_option maxHeartbeats 4000000 in
set_option maxRecDepth 100000 in
theorem k_X2_resolve_47 (l : Launch) (D : Dx) (hT : Nat) (aT : Nat → Nat) (yT : Nat → ClassId) (aT_0 : Nat → Nat) (yT_0 : Nat → ClassId) (hP0 : Nat) (aP0 : Nat → Nat) (yP0 : Nat → ClassId) (hP1 : Nat) (aP1 : Nat → Nat) (yP1 : Nat → ClassId) (n : Nat) (rec : (Gs → Gs → Gs → Gs → Int32 → Option (Gs × Gs)) × (Gs → Gs → Gs → Gs → Int32 → Int32 → Int32 → Int32 → Option (Gs × Gs))) (IH : SH_X2_resolve l D hT aT yT aT_0 yT_0 hP0 aP0 yP0 hP1 aP1 yP1 rec) : S_X2_resolve_47 l D hT aT yT aT_0 yT_0 hP0 aP0 yP0 hP1 aP1 yP1 (h_X2_resolve_47 n rec) := by
  intro p e s m args below meth c H locs A ls gT gT_0 gP0 gP1 v3 v4 v5 v6 q C X hl hF
  obtain ⟨hx, hb, hr, hml, hown, hts, hlk⟩ := id C
  unfold h_X2_resolve_47 at hF
  refine lv_iload hx hb dX2_resolve_47 (lv_at hl 6 rfl) ?_
  refine lv_aload_n hx hb dX2_resolve_49 rfl (lv_at hl 2 rfl) ?_
  refine lv_iload_n hx hb dX2_resolve_50 rfl (lv_at hl 3 rfl) ?_
  obtain ⟨q_5, hc_6, hF⟩ := bnd_some hF
  refine cV_i (As := [.int v3]) (rest := [.int v6]) C X (c_X0_endOf l D hP1 aP1 yP1 gP1 v3 q_5 hc_6 _) (cwV 1 hts (good_V q4_209 q4_210 q4_211 q1_8 q4_212) rfl rfl rfl (by decide +kernel) ⟨Nat.le_of_ble_eq_true rfl, Nat.le_of_ble_eq_true rfl⟩) (va_recv X.1 X.2.1 (ci := 0) (q0 := 13) rfl rfl) (X.1.sub (tys' := tX0 yP1) [11, 12, 13, 14, 15, 16, 17, 18, 19, 20, 21, 22, 23, 24, 25] rfl) (X.2.1.sub (ws' := wX0 hP1 aP1 yP1 gP1) [13, 14, 15, 16, 17, 18, 19, 20, 21, 22, 23, 24, 25, 26, 27, 28] rfl) (X.2.2.1.sub (ws' := wX0 hP1 aP1 yP1 gP1) [13, 14, 15, 16, 17, 18, 19, 20, 21, 22, 23, 24, 25, 26, 27, 28] (by decide) rfl) (free_of (wC := wX0 hP1 aP1 yP1 gP1) (isC := [13, 14, 15, 16, 17, 18, 19, 20, 21, 22, 23, 24, 25, 26, 27, 28]) X rfl) hl.1 rfl rfl (Nat.le_of_ble_eq_true rfl) dX2_resolve_51 ⟨Nat.le_of_ble_eq_true rfl, Nat.le_of_ble_eq_true rfl⟩ (fun t H1 locs1 ht hB hk hS => ?_)
  have X : Hx D (tX2 yT ++ (tTP yT_0 ++ (tX4 yP0 ++ (tX0 yP1)))) A s H1 locs1 (wX2 hT aT yT gT ++ (wTP (aT 0) aT_0 yT_0 gT_0 ++ (wX4 hP0 aP0 yP0 gP0 ++ (wX0 hP1 aP1 yP1 gP1)))) := Hx_after (isC := [13, 14, 15, 16, 17, 18, 19, 20, 21, 22, 23, 24, 25, 26, 27, 28]) (isR := [0, 1, 2, 3, 4, 5, 6, 7, 8, 9, 10, 11, 12]) (pm := [0, 1, 2, 3, 4, 5, 6, 7, 8, 9, 10, 11, 12, 13, 14, 15, 16, 17, 18, 19, 20, 21, 22, 23, 24, 25, 26, 27, 28]) (wr := wX2 hT aT yT gT ++ (wTP (aT 0) aT_0 yT_0 gT_0 ++ (wX4 hP0 aP0 yP0 gP0))) X ⟨rfl, rfl, by decide, by decide, rfl, by decide⟩ ht hB hk hS
  clear hk hS ht hB
  generalize H1 = H at X ⊢
  generalize locs1 = locs at X ⊢
  refine lv_icmp_ge (tgt := 189) hx hb dX2_resolve_54 (by decide) (fun c => ?_) (fun c => ?_)
  · replace hF := iT c hF
    refine lv_iinc (v := v3 + (1 : Int32)) (lv' := [(3, .int (v3 + (1 : Int32))), (0, .ref hT), (1, .ref hP0), (2, .ref hP1), (4, .int v4), (5, .int v5), (6, .int v6)]) hx hb dX2_resolve_189 hl (k := 3) rfl rfl (by decide) rfl (fun ls hl => ?_)
    refine lv_goto (tgt := 2) hx hb dX2_resolve_192 (by decide) ?_
    exact IH.1 C X (lv_sub hl [1, 2, 3, 0] rfl) hF
  · replace hF := iF c hF
    refine lv_aload_n hx hb dX2_resolve_57 rfl (lv_at hl 2 rfl) ?_
    refine va_getN (D := D.1) (ci := 0) (v := .ref (aP1 0)) (C := RX0) (T := TX0) (N := 19) hx hb hts wi_X0 hown X.1 X.2.1 13 rfl rfl 0 (by decide) (X.2.2.2.2.2.1.use q1_210 rfl) (fun _ h9 => h9) (fl_get (by decide)) dX2_resolve_58 ?_
    refine lv_iload hx hb dX2_resolve_61 (lv_at hl 6 rfl) ?_
    obtain ⟨h_7, hF⟩ := grd_some hF
    refine va_iald (D := D.1) (f := gIA gP1 0) hx hb X.1 X.2.1 14 11 rfl rfl (inB_ok h_7) dX2_resolve_63 ?_
    refine lv_bipush (v := (64 : Int32)) hx hb dX2_resolve_64 (by decide) ?_
    refine lv_icmp_ne (tgt := 73) hx hb dX2_resolve_66 (by decide) (fun c => ?_) (fun c => ?_)
    · replace hF := iF c hF
      refine lv_iconst (v := (0 : Int32)) hx hb dX2_resolve_73 (by decide) ?_
      exact (k_X2_resolve_74 l D hT aT yT aT_0 yT_0 hP0 aP0 yP0 hP1 aP1 yP1 n rec IH) C X (lv_sub hl [0, 1, 2, 3, 4, 5, 6] rfl) hF
    · replace hF := iT c hF
      refine lv_iconst (v := (1 : Int32)) hx hb dX2_resolve_69 (by decide) ?_
      refine lv_goto (tgt := 74) hx hb dX2_resolve_70 (by decide) ?_
      exact (k_X2_resolve_74 l D hT aT yT aT_0 yT_0 hP0 aP0 yP0 hP1 aP1 yP1 n rec IH) C X (lv_sub hl [0, 1, 2, 3, 4, 5, 6] rfl) hF
set_option maxHeartbeats 4000000 in
set_option maxRecDepth 100000 in
theorem k_X2_resolve_2 (l : Launch) (D : Dx) (hT : Nat) (aT : Nat → Nat) (yT : Nat → ClassId) (aT_0 : Nat → Nat) (yT_0 : Nat → ClassId) (hP0 : Nat) (aP0 : Nat → Nat) (yP0 : Nat → ClassId) (hP1 : Nat) (aP1 : Nat → Nat) (yP1 : Nat → ClassId) (n : Nat) (rec : (Gs → Gs → Gs → Gs → Int32 → Option (Gs × Gs)) × (Gs → Gs → Gs → Gs → Int32 → Int32 → Int32 → Int32 → Option (Gs × Gs))) (IH : SH_X2_resolve l D hT aT yT aT_0 yT_0 hP0 aP0 yP0 hP1 aP1 yP1 rec) : S_X2_resolve_2 l D hT aT yT aT_0 yT_0 hP0 aP0 yP0 hP1 aP1 yP1 (h_X2_resolve_2 n rec) := by
  intro p e s m args below meth c H locs A ls gT gT_0 gP0 gP1 v3 q C X hl hF
  obtain ⟨hx, hb, hr, hml, hown, hts, hlk⟩ := id C
  unfold h_X2_resolve_2 at hF
  refine lv_iload_n hx hb dX2_resolve_2 rfl (lv_at hl 3 rfl) ?_
  refine lv_aload_n hx hb dX2_resolve_3 rfl (lv_at hl 2 rfl) ?_
  refine va_getN (D := D.1) (ci := 0) (v := .int (gI gP1 18)) (C := RX0) (T := TX0) (N := 19) hx hb hts wi_X0 hown X.1 X.2.1 13 rfl rfl 18 (by decide) (X.2.2.2.2.2.1.use q2_26 rfl) (fun _ h9 => h9) (fl_get (by decide)) dX2_resolve_4 ?_
  refine lv_icmp_ge (tgt := 195) hx hb dX2_resolve_7 (by decide) (fun c => ?_) (fun c => ?_)
  · replace hF := iT c hF
    have hq := Option.some.inj hF
    subst hq
    exact rt_v C X dX2_resolve_195
  · replace hF := iF c hF
    refine lv_aload_n hx hb dX2_resolve_10 rfl (lv_at hl 2 rfl) ?_
    refine va_getN (D := D.1) (ci := 0) (v := .ref (aP1 15)) (C := RX0) (T := TX0) (N := 19) hx hb hts wi_X0 hown X.1 X.2.1 13 rfl rfl 15 (by decide) (X.2.2.2.2.2.1.use q2_15 rfl) (fun _ h9 => h9) (fl_get (by decide)) dX2_resolve_11 ?_
    refine lv_iload_n hx hb dX2_resolve_14 rfl (lv_at hl 3 rfl) ?_
    obtain ⟨h_1, hF⟩ := grd_some hF
    refine va_iald (D := D.1) (f := gIA gP1 15) hx hb X.1 X.2.1 26 23 rfl rfl (inB_ok h_1) dX2_resolve_15 ?_
    refine lv_aload_n hx hb dX2_resolve_16 rfl (lv_at hl 1 rfl) ?_
    refine va_getN (D := D.1) (ci := 4) (v := .int (gI gP0 4)) (C := RX4) (T := TX4) (N := 14) hx hb hts wi_X4 hown X.1 X.2.1 2 rfl rfl 4 (by decide) (X.2.2.2.2.2.1.use q2_81 rfl) (fun _ h9 => h9) (fl_get (by decide)) dX2_resolve_17 ?_
    refine va_mmin hx hb (by rw [hml]; exact hl.1.symm) hown (hts _ q4_204) (hts _ q3_128) (hts _ q1_14) (hts _ q3_129) (Nat.le_of_ble_eq_true rfl) (Nat.le_of_ble_eq_true rfl) (Nat.le_of_ble_eq_true rfl) (Nat.le_of_ble_eq_true rfl) dX2_resolve_20 ?_
    refine lv_istore (lv' := [(4, .int (if (gI gP0 4) < (gIA gP1 15 v3.toNatClampNeg) then (gI gP0 4) else (gIA gP1 15 v3.toNatClampNeg))), (0, .ref hT), (1, .ref hP0), (2, .ref hP1), (3, .int v3)]) hx hb dX2_resolve_23 hl (by decide) rfl (fun ls hl => ?_)
    refine lv_aload_n hx hb dX2_resolve_25 rfl (lv_at hl 3 rfl) ?_
    refine va_getN (D := D.1) (ci := 0) (v := .ref (aP1 16)) (C := RX0) (T := TX0) (N := 19) hx hb hts wi_X0 hown X.1 X.2.1 13 rfl rfl 16 (by decide) (X.2.2.2.2.2.1.use q2_18 rfl) (fun _ h9 => h9) (fl_get (by decide)) dX2_resolve_26 ?_
    refine lv_iload_n hx hb dX2_resolve_29 rfl (lv_at hl 4 rfl) ?_
    obtain ⟨h_2, hF⟩ := grd_some hF
    refine va_iald (D := D.1) (f := gIA gP1 16) hx hb X.1 X.2.1 27 24 rfl rfl (inB_ok h_2) dX2_resolve_30 ?_
    refine lv_aload_n hx hb dX2_resolve_31 rfl (lv_at hl 2 rfl) ?_
    refine va_getN (D := D.1) (ci := 4) (v := .int (gI gP0 6)) (C := RX4) (T := TX4) (N := 14) hx hb hts wi_X4 hown X.1 X.2.1 2 rfl rfl 6 (by decide) (X.2.2.2.2.2.1.use q2_90 rfl) (fun _ h9 => h9) (fl_get (by decide)) dX2_resolve_32 ?_
    refine va_mmin hx hb (by rw [hml]; exact hl.1.symm) hown (hts _ q4_204) (hts _ q3_128) (hts _ q1_14) (hts _ q3_129) (Nat.le_of_ble_eq_true rfl) (Nat.le_of_ble_eq_true rfl) (Nat.le_of_ble_eq_true rfl) (Nat.le_of_ble_eq_true rfl) dX2_resolve_35 ?_
    refine lv_istore (lv' := [(5, .int (if (gI gP0 6) < (gIA gP1 16 v3.toNatClampNeg) then (gI gP0 6) else (gIA gP1 16 v3.toNatClampNeg))), (4, .int (if (gI gP0 4) < (gIA gP1 15 v3.toNatClampNeg) then (gI gP0 4) else (gIA gP1 15 v3.toNatClampNeg))), (0, .ref hT), (1, .ref hP0), (2, .ref hP1), (3, .int v3)]) hx hb dX2_resolve_38 hl (by decide) rfl (fun ls hl => ?_)
    refine lv_aload_n hx hb dX2_resolve_40 rfl (lv_at hl 4 rfl) ?_
    refine lv_iload_n hx hb dX2_resolve_41 rfl (lv_at hl 5 rfl) ?_
    obtain ⟨q_3, hc_4, hF⟩ := bnd_some hF
    refine cV_i (As := [.int v3]) (rest := []) C X (c_X0_beginOf l D hP1 aP1 yP1 gP1 v3 q_3 hc_4 _) (cwV 1 hts (good_V q4_205 q4_206 q4_207 q1_8 q4_208) rfl rfl rfl (by decide +kernel) ⟨Nat.le_of_ble_eq_true rfl, Nat.le_of_ble_eq_true rfl⟩) (va_recv X.1 X.2.1 (ci := 0) (q0 := 13) rfl rfl) (X.1.sub (tys' := tX0 yP1) [11, 12, 13, 14, 15, 16, 17, 18, 19, 20, 21, 22, 23, 24, 25] rfl) (X.2.1.sub (ws' := wX0 hP1 aP1 yP1 gP1) [13, 14, 15, 16, 17, 18, 19, 20, 21, 22, 23, 24, 25, 26, 27, 28] rfl) (X.2.2.1.sub (ws' := wX0 hP1 aP1 yP1 gP1) [13, 14, 15, 16, 17, 18, 19, 20, 21, 22, 23, 24, 25, 26, 27, 28] (by decide) rfl) (free_of (wC := wX0 hP1 aP1 yP1 gP1) (isC := [13, 14, 15, 16, 17, 18, 19, 20, 21, 22, 23, 24, 25, 26, 27, 28]) X rfl) hl.1 rfl rfl (Nat.le_of_ble_eq_true rfl) dX2_resolve_42 ⟨Nat.le_of_ble_eq_true rfl, Nat.le_of_ble_eq_true rfl⟩ (fun t H1 locs1 ht hB hk hS => ?_)
    have X : Hx D (tX2 yT ++ (tTP yT_0 ++ (tX4 yP0 ++ (tX0 yP1)))) A s H1 locs1 (wX2 hT aT yT gT ++ (wTP (aT 0) aT_0 yT_0 gT_0 ++ (wX4 hP0 aP0 yP0 gP0 ++ (wX0 hP1 aP1 yP1 gP1)))) := Hx_after (isC := [13, 14, 15, 16, 17, 18, 19, 20, 21, 22, 23, 24, 25, 26, 27, 28]) (isR := [0, 1, 2, 3, 4, 5, 6, 7, 8, 9, 10, 11, 12]) (pm := [0, 1, 2, 3, 4, 5, 6, 7, 8, 9, 10, 11, 12, 13, 14, 15, 16, 17, 18, 19, 20, 21, 22, 23, 24, 25, 26, 27, 28]) (wr := wX2 hT aT yT gT ++ (wTP (aT 0) aT_0 yT_0 gT_0 ++ (wX4 hP0 aP0 yP0 gP0))) X ⟨rfl, rfl, by decide, by decide, rfl, by decide⟩ ht hB hk hS
    clear hk hS ht hB
    generalize H1 = H at X ⊢
    generalize locs1 = locs at X ⊢
    refine lv_istore (lv' := [(6, .int q_3), (5, .int (if (gI gP0 6) < (gIA gP1 16 v3.toNatClampNeg) then (gI gP0 6) else (gIA gP1 16 v3.toNatClampNeg))), (4, .int (if (gI gP0 4) < (gIA gP1 15 v3.toNatClampNeg) then (gI gP0 4) else (gIA gP1 15 v3.toNatClampNeg))), (0, .ref hT), (1, .ref hP0), (2, .ref hP1), (3, .int v3)]) hx hb dX2_resolve_45 hl (by decide) rfl (fun ls hl => ?_)
    exact IH.2 C X (lv_sub hl [3, 4, 5, 6, 2, 1, 0] rfl) hF
theorem kL_X2_resolve (l : Launch) (D : Dx) (hT : Nat) (aT : Nat → Nat) (yT : Nat → ClassId) (aT_0 : Nat → Nat) (yT_0 : Nat → ClassId) (hP0 : Nat) (aP0 : Nat → Nat) (yP0 : Nat → ClassId) (hP1 : Nat) (aP1 : Nat → Nat) (yP1 : Nat → ClassId) (n : Nat) : ∀ k, SH_X2_resolve l D hT aT yT aT_0 yT_0 hP0 aP0 yP0 hP1 aP1 yP1 (L_X2_resolve n k)
  | 0 => ⟨(fun _ _ _ h => by cases h), (fun _ _ _ h => by cases h)⟩
  | k + 1 => ⟨k_X2_resolve_2 l D hT aT yT aT_0 yT_0 hP0 aP0 yP0 hP1 aP1 yP1 n _ (kL_X2_resolve l D hT aT yT aT_0 yT_0 hP0 aP0 yP0 hP1 aP1 yP1 n k), k_X2_resolve_47 l D hT aT yT aT_0 yT_0 hP0 aP0 yP0 hP1 aP1 yP1 n _ (kL_X2_resolve l D hT aT yT aT_0 yT_0 hP0 aP0 yP0 hP1 aP1 yP1 n k)⟩
set_option maxHeartbeats 4000000 in
set_option maxRecDepth 100000 in
theorem c_X2_resolve (l : Launch) (D : Dx) (hT : Nat) (aT : Nat → Nat) (yT : Nat → ClassId) (aT_0 : Nat → Nat) (yT_0 : Nat → ClassId) (hP0 : Nat) (aP0 : Nat → Nat) (yP0 : Nat → ClassId) (hP1 : Nat) (aP1 : Nat → Nat) (yP1 : Nat → ClassId) (n : Nat) (gT : Gs) (gT_0 : Gs) (gP0 : Gs) (gP1 : Gs) (q : Gs × Gs) (hF : f_X2_resolve n gT gT_0 gP0 gP1 = some q) (sz : Nat) : Met l yX2_resolve (ws_ yX2_resolve cX2_resolve 10 none) R_X2_resolve (PC D (tX2 yT ++ (tTP yT_0 ++ (tX4 yP0 ++ (tX0 yP1)))) [.ref hT, .ref hP0, .ref hP1] (wX2 hT aT yT gT ++ (wTP (aT 0) aT_0 yT_0 gT_0 ++ (wX4 hP0 aP0 yP0 gP0 ++ (wX0 hP1 aP1 yP1 gP1)))) sz) (QV D (va_A (wX2 hT aT yT gT ++ (wTP (aT 0) aT_0 yT_0 gT_0 ++ (wX4 hP0 aP0 yP0 gP0 ++ (wX0 hP1 aP1 yP1 gP1)))) sz) (wX2 hT aT yT q.1 ++ (wTP (aT 0) aT_0 yT_0 gT_0 ++ (wX4 hP0 aP0 yP0 gP0 ++ (wX0 hP1 aP1 yP1 q.2))))) 0 0 (va_A (wX2 hT aT yT gT ++ (wTP (aT 0) aT_0 yT_0 gT_0 ++ (wX4 hP0 aP0 yP0 gP0 ++ (wX0 hP1 aP1 yP1 gP1)))) sz) := by
  refine Met.ofW (cc := cX2_resolve) (maxL := 10) (ret := none) (by decide) rfl ?_
  intro p e s m args below meth c s₁ B hml hv
  obtain ⟨rfl, hsz, hP, hK, hD, hN⟩ := hv
  subst hsz
  have C : Cx p s m _ meth c cX2_resolve none 10 RX2 lw_all := Cx_of B hml
  have X := Hx_start hP hK hD hN
  obtain ⟨hx, hb, hr, -, hown, hts, hlk⟩ := id C
  generalize va_A (wX2 hT aT yT gT ++ (wTP (aT 0) aT_0 yT_0 gT_0 ++ (wX4 hP0 aP0 yP0 gP0 ++ (wX0 hP1 aP1 yP1 gP1)))) s.heap.size = A at X ⊢
  have hl := lv_entry ([.ref hT, .ref hP0, .ref hP1]) (n := 10) (Nat.le_of_ble_eq_true rfl)
  rw [lg_entry_eq]
  generalize (lg_sl ([.ref hT, .ref hP0, .ref hP1]) ++ List.replicate (10 - (lg_sl ([.ref hT, .ref hP0, .ref hP1])).length) Slot.unset).toArray = ls at hl ⊢
  have hl : lv_has ls 10 [(0, .ref hT), (1, .ref hP0), (2, .ref hP1)] := hl
  unfold f_X2_resolve at hF
  refine lv_iconst (v := (0 : Int32)) hx hb dX2_resolve_0 (by decide) ?_
  refine lv_istore_n (lv' := [(3, .int (0 : Int32)), (0, .ref hT), (1, .ref hP0), (2, .ref hP1)]) hx hb dX2_resolve_1 rfl hl (by decide) rfl (fun ls hl => ?_)
  exact (kL_X2_resolve l D hT aT yT aT_0 yT_0 hP0 aP0 yP0 hP1 aP1 yP1 n n).1 C X (lv_sub hl [1, 2, 3, 0] rfl) hF

/-! ### X2_firstFault -/
theorem dX2_firstFault_0 : decode cX2_firstFault 0 = .ok (.aload_n 0, 1) := by decide +kernel
theorem dX2_firstFault_1 : decode cX2_firstFault 1 = .ok (.iconst (-1), 1) := by decide +kernel
theorem dX2_firstFault_2 : decode cX2_firstFault 2 = .ok (.putfield 9, 3) := by decide +kernel
theorem dX2_firstFault_5 : decode cX2_firstFault 5 = .ok (.aload_n 0, 1) := by decide +kernel
theorem dX2_firstFault_6 : decode cX2_firstFault 6 = .ok (.aload_n 1, 1) := by decide +kernel
theorem dX2_firstFault_7 : decode cX2_firstFault 7 = .ok (.iconst 0, 1) := by decide +kernel
theorem dX2_firstFault_8 : decode cX2_firstFault 8 = .ok (.aload_n 1, 1) := by decide +kernel
theorem dX2_firstFault_9 : decode cX2_firstFault 9 = .ok (.getfield 19, 3) := by decide +kernel
theorem dX2_firstFault_12 : decode cX2_firstFault 12 = .ok (.invokevirtual 24, 3) := by decide +kernel
theorem dX2_firstFault_15 : decode cX2_firstFault 15 = .ok (.aload_n 0, 1) := by decide +kernel
theorem dX2_firstFault_16 : decode cX2_firstFault 16 = .ok (.aload_n 1, 1) := by decide +kernel
theorem dX2_firstFault_17 : decode cX2_firstFault 17 = .ok (.bipush 40, 2) := by decide +kernel
theorem dX2_firstFault_19 : decode cX2_firstFault 19 = .ok (.aload_n 1, 1) := by decide +kernel
theorem dX2_firstFault_20 : decode cX2_firstFault 20 = .ok (.getfield 28, 3) := by decide +kernel
theorem dX2_firstFault_23 : decode cX2_firstFault 23 = .ok (.invokevirtual 24, 3) := by decide +kernel
theorem dX2_firstFault_26 : decode cX2_firstFault 26 = .ok (.aload_n 0, 1) := by decide +kernel
theorem dX2_firstFault_27 : decode cX2_firstFault 27 = .ok (.aload_n 1, 1) := by decide +kernel
theorem dX2_firstFault_28 : decode cX2_firstFault 28 = .ok (.bipush 52, 2) := by decide +kernel
theorem dX2_firstFault_30 : decode cX2_firstFault 30 = .ok (.aload_n 1, 1) := by decide +kernel
theorem dX2_firstFault_31 : decode cX2_firstFault 31 = .ok (.getfield 31, 3) := by decide +kernel
theorem dX2_firstFault_34 : decode cX2_firstFault 34 = .ok (.invokevirtual 24, 3) := by decide +kernel
theorem dX2_firstFault_37 : decode cX2_firstFault 37 = .ok (.aload_n 0, 1) := by decide +kernel
theorem dX2_firstFault_38 : decode cX2_firstFault 38 = .ok (.aload_n 1, 1) := by decide +kernel
theorem dX2_firstFault_39 : decode cX2_firstFault 39 = .ok (.aload_n 1, 1) := by decide +kernel
theorem dX2_firstFault_40 : decode cX2_firstFault 40 = .ok (.getfield 34, 3) := by decide +kernel
theorem dX2_firstFault_43 : decode cX2_firstFault 43 = .ok (.invokevirtual 38, 3) := by decide +kernel
theorem dX2_firstFault_46 : decode cX2_firstFault 46 = .ok (.aload_n 0, 1) := by decide +kernel
theorem dX2_firstFault_47 : decode cX2_firstFault 47 = .ok (.getfield 9, 3) := by decide +kernel
theorem dX2_firstFault_50 : decode cX2_firstFault 50 = .ok (.ireturn, 1) := by decide +kernel
abbrev R_X2_firstFault : Room := ({ frames := 4, cells := 0, slots := 0, locals := 114 } : Room)
def f_X2_firstFault (n : Nat) (gT : Gs) (gT_0 : Gs) (gP0 : Gs) (gP0_0 : Gs) : Option (Int32 × Gs × Gs) :=
  bnd (f_X2_compareAll n (sI gT 1 (-1 : Int32)) gT_0 gP0 (0 : Int32) (gI gP0 4)) (fun q_1 => bnd (f_X2_compareAll n q_1 gT_0 gP0 (40 : Int32) (gI gP0 5)) (fun q_3 => bnd (f_X2_compareAll n q_3 gT_0 gP0 (52 : Int32) (gI gP0 6)) (fun q_5 => bnd (f_X2_resolve n q_5 gT_0 gP0 gP0_0) (fun q_7 => some (gI q_7.1 1, q_7.1, q_7.2)))))
set_option maxHeartbeats 4000000 in
set_option maxRecDepth 100000 in
theorem c_X2_firstFault (l : Launch) (D : Dx) (hT : Nat) (aT : Nat → Nat) (yT : Nat → ClassId) (aT_0 : Nat → Nat) (yT_0 : Nat → ClassId) (hP0 : Nat) (aP0 : Nat → Nat) (yP0 : Nat → ClassId) (aP0_0 : Nat → Nat) (yP0_0 : Nat → ClassId) (n : Nat) (gT : Gs) (gT_0 : Gs) (gP0 : Gs) (gP0_0 : Gs) (q : Int32 × Gs × Gs) (hF : f_X2_firstFault n gT gT_0 gP0 gP0_0 = some q) (sz : Nat) : Met l yX2_firstFault (ws_ yX2_firstFault cX2_firstFault 2 (some .int)) R_X2_firstFault (PC D (tX2 yT ++ (tTP yT_0 ++ (tX4 yP0 ++ (tX0 yP0_0)))) [.ref hT, .ref hP0] (wX2 hT aT yT gT ++ (wTP (aT 0) aT_0 yT_0 gT_0 ++ (wX4 hP0 aP0 yP0 gP0 ++ (wX0 (aP0 0) aP0_0 yP0_0 gP0_0)))) sz) (QI D (va_A (wX2 hT aT yT gT ++ (wTP (aT 0) aT_0 yT_0 gT_0 ++ (wX4 hP0 aP0 yP0 gP0 ++ (wX0 (aP0 0) aP0_0 yP0_0 gP0_0)))) sz) (wX2 hT aT yT q.2.1 ++ (wTP (aT 0) aT_0 yT_0 gT_0 ++ (wX4 hP0 aP0 yP0 gP0 ++ (wX0 (aP0 0) aP0_0 yP0_0 q.2.2)))) q.1) 0 0 (va_A (wX2 hT aT yT gT ++ (wTP (aT 0) aT_0 yT_0 gT_0 ++ (wX4 hP0 aP0 yP0 gP0 ++ (wX0 (aP0 0) aP0_0 yP0_0 gP0_0)))) sz) := by
  refine Met.ofW (cc := cX2_firstFault) (maxL := 2) (ret := (some .int)) (by decide) rfl ?_
  intro p e s m args below meth c s₁ B hml hv
  obtain ⟨rfl, hsz, hP, hK, hD, hN⟩ := hv
  subst hsz
  have C : Cx p s m _ meth c cX2_firstFault (some .int) 2 RX2 lw_all := Cx_of B hml
  have X := Hx_start hP hK hD hN
  obtain ⟨hx, hb, hr, -, hown, hts, hlk⟩ := id C
  generalize va_A (wX2 hT aT yT gT ++ (wTP (aT 0) aT_0 yT_0 gT_0 ++ (wX4 hP0 aP0 yP0 gP0 ++ (wX0 (aP0 0) aP0_0 yP0_0 gP0_0)))) s.heap.size = A at X ⊢
  have hl := lv_entry ([.ref hT, .ref hP0]) (n := 2) (Nat.le_of_ble_eq_true rfl)
  rw [lg_entry_eq]
  generalize (lg_sl ([.ref hT, .ref hP0]) ++ List.replicate (2 - (lg_sl ([.ref hT, .ref hP0])).length) Slot.unset).toArray = ls at hl ⊢
  have hl : lv_has ls 2 [(0, .ref hT), (1, .ref hP0)] := hl
  unfold f_X2_firstFault at hF
  refine lv_aload_n hx hb dX2_firstFault_0 rfl (lv_at hl 0 rfl) ?_
  refine lv_iconst (v := (-1 : Int32)) hx hb dX2_firstFault_1 (by decide) ?_
  refine va_put (D := D.1) (ci := 2) (v := .int (-1 : Int32)) (ty := .int) (C := RX2) (T := TX2) (N := 2) hx hb hts wi_X2 tyX2 tyX2_ok nmX2 hown X.1 X.2.1 X.2.2.1 X.2.2.2.1 0 rfl rfl 1 (by decide) (hts _ q3_45) (fun _ h9 => h9) rfl (by decide +kernel) rfl rfl (by rw [List.length_map, List.length_range]; decide) dX2_firstFault_2 (fun H locs hP hD hS => ?_)
  have X : Hx D (tX2 yT ++ (tTP yT_0 ++ (tX4 yP0 ++ (tX0 yP0_0)))) A s H locs (wX2 hT aT yT (sI gT 1 (-1 : Int32)) ++ (wTP (aT 0) aT_0 yT_0 gT_0 ++ (wX4 hP0 aP0 yP0 gP0 ++ (wX0 (aP0 0) aP0_0 yP0_0 gP0_0)))) := Hx_set X (set_l (by rw [wG_len (m := 1) rfl]; decide) (wG_sI (k := 1) rfl)) hP hD hS
  refine lv_aload_n hx hb dX2_firstFault_5 rfl (lv_at hl 0 rfl) ?_
  refine lv_aload_n hx hb dX2_firstFault_6 rfl (lv_at hl 1 rfl) ?_
  refine lv_iconst (v := (0 : Int32)) hx hb dX2_firstFault_7 (by decide) ?_
  refine lv_aload_n hx hb dX2_firstFault_8 rfl (lv_at hl 1 rfl) ?_
  refine va_getN (D := D.1) (ci := 4) (v := .int (gI gP0 4)) (C := RX4) (T := TX4) (N := 14) hx hb hts wi_X4 hown X.1 X.2.1 2 rfl rfl 4 (by decide) (X.2.2.2.2.2.1.use q2_81 rfl) (fun _ h9 => h9) (fl_get (by decide)) dX2_firstFault_9 ?_
  obtain ⟨q_1, hc_2, hF⟩ := bnd_some hF
  refine cV_v (As := [.ref hP0, .int (0 : Int32), .int (gI gP0 4)]) (rest := []) C X (c_X2_compareAll l D hT aT yT aT_0 yT_0 hP0 aP0 yP0 n (sI gT 1 (-1 : Int32)) gT_0 gP0 (0 : Int32) (gI gP0 4) q_1 hc_2 _) (cwV 3 hts (good_V q4_180 q4_182 q0_36 q1_13 q4_183) rfl rfl rfl (by decide +kernel) ⟨Nat.le_of_ble_eq_true rfl, Nat.le_of_ble_eq_true rfl⟩) (va_recv X.1 X.2.1 (ci := 2) (q0 := 0) rfl rfl) (X.1.sub (tys' := tX2 yT ++ (tTP yT_0 ++ (tX4 yP0))) [0, 1, 2, 3, 4, 5, 6, 7, 8, 9, 10] rfl) (X.2.1.sub (ws' := wX2 hT aT yT (sI gT 1 (-1 : Int32)) ++ (wTP (aT 0) aT_0 yT_0 gT_0 ++ (wX4 hP0 aP0 yP0 gP0))) [0, 1, 2, 3, 4, 5, 6, 7, 8, 9, 10, 11, 12] rfl) (X.2.2.1.sub (ws' := wX2 hT aT yT (sI gT 1 (-1 : Int32)) ++ (wTP (aT 0) aT_0 yT_0 gT_0 ++ (wX4 hP0 aP0 yP0 gP0))) [0, 1, 2, 3, 4, 5, 6, 7, 8, 9, 10, 11, 12] (by decide) rfl) (free_of (wC := wX2 hT aT yT (sI gT 1 (-1 : Int32)) ++ (wTP (aT 0) aT_0 yT_0 gT_0 ++ (wX4 hP0 aP0 yP0 gP0))) (isC := [0, 1, 2, 3, 4, 5, 6, 7, 8, 9, 10, 11, 12]) X rfl) hl.1 rfl rfl (Nat.le_of_ble_eq_true rfl) dX2_firstFault_12 ⟨Nat.le_of_ble_eq_true rfl, Nat.le_of_ble_eq_true rfl⟩ (fun t H1 locs1 ht hB hk hS => ?_)
  have X : Hx D (tX2 yT ++ (tTP yT_0 ++ (tX4 yP0 ++ (tX0 yP0_0)))) A s H1 locs1 (wX2 hT aT yT q_1 ++ (wTP (aT 0) aT_0 yT_0 gT_0 ++ (wX4 hP0 aP0 yP0 gP0 ++ (wX0 (aP0 0) aP0_0 yP0_0 gP0_0)))) := Hx_after (isC := [0, 1, 2, 3, 4, 5, 6, 7, 8, 9, 10, 11, 12]) (isR := [13, 14, 15, 16, 17, 18, 19, 20, 21, 22, 23, 24, 25, 26, 27, 28]) (pm := [16, 17, 18, 19, 20, 21, 22, 23, 24, 25, 26, 27, 28, 0, 1, 2, 3, 4, 5, 6, 7, 8, 9, 10, 11, 12, 13, 14, 15]) (wr := wX0 (aP0 0) aP0_0 yP0_0 gP0_0) X ⟨rfl, rfl, by decide, by decide, rfl, by decide⟩ ht hB hk hS
  clear hk hS ht hB
  generalize H1 = H at X ⊢
  generalize locs1 = locs at X ⊢
  refine lv_aload_n hx hb dX2_firstFault_15 rfl (lv_at hl 0 rfl) ?_
  refine lv_aload_n hx hb dX2_firstFault_16 rfl (lv_at hl 1 rfl) ?_
  refine lv_bipush (v := (40 : Int32)) hx hb dX2_firstFault_17 (by decide) ?_
  refine lv_aload_n hx hb dX2_firstFault_19 rfl (lv_at hl 1 rfl) ?_
  refine va_getN (D := D.1) (ci := 4) (v := .int (gI gP0 5)) (C := RX4) (T := TX4) (N := 14) hx hb hts wi_X4 hown X.1 X.2.1 2 rfl rfl 5 (by decide) (X.2.2.2.2.2.1.use q2_85 rfl) (fun _ h9 => h9) (fl_get (by decide)) dX2_firstFault_20 ?_
  obtain ⟨q_3, hc_4, hF⟩ := bnd_some hF
  refine cV_v (As := [.ref hP0, .int (40 : Int32), .int (gI gP0 5)]) (rest := []) C X (c_X2_compareAll l D hT aT yT aT_0 yT_0 hP0 aP0 yP0 n q_1 gT_0 gP0 (40 : Int32) (gI gP0 5) q_3 hc_4 _) (cwV 3 hts (good_V q4_180 q4_182 q0_36 q1_13 q4_183) rfl rfl rfl (by decide +kernel) ⟨Nat.le_of_ble_eq_true rfl, Nat.le_of_ble_eq_true rfl⟩) (va_recv X.1 X.2.1 (ci := 2) (q0 := 0) rfl rfl) (X.1.sub (tys' := tX2 yT ++ (tTP yT_0 ++ (tX4 yP0))) [0, 1, 2, 3, 4, 5, 6, 7, 8, 9, 10] rfl) (X.2.1.sub (ws' := wX2 hT aT yT q_1 ++ (wTP (aT 0) aT_0 yT_0 gT_0 ++ (wX4 hP0 aP0 yP0 gP0))) [0, 1, 2, 3, 4, 5, 6, 7, 8, 9, 10, 11, 12] rfl) (X.2.2.1.sub (ws' := wX2 hT aT yT q_1 ++ (wTP (aT 0) aT_0 yT_0 gT_0 ++ (wX4 hP0 aP0 yP0 gP0))) [0, 1, 2, 3, 4, 5, 6, 7, 8, 9, 10, 11, 12] (by decide) rfl) (free_of (wC := wX2 hT aT yT q_1 ++ (wTP (aT 0) aT_0 yT_0 gT_0 ++ (wX4 hP0 aP0 yP0 gP0))) (isC := [0, 1, 2, 3, 4, 5, 6, 7, 8, 9, 10, 11, 12]) X rfl) hl.1 rfl rfl (Nat.le_of_ble_eq_true rfl) dX2_firstFault_23 ⟨Nat.le_of_ble_eq_true rfl, Nat.le_of_ble_eq_true rfl⟩ (fun t H1 locs1 ht hB hk hS => ?_)
  have X : Hx D (tX2 yT ++ (tTP yT_0 ++ (tX4 yP0 ++ (tX0 yP0_0)))) A s H1 locs1 (wX2 hT aT yT q_3 ++ (wTP (aT 0) aT_0 yT_0 gT_0 ++ (wX4 hP0 aP0 yP0 gP0 ++ (wX0 (aP0 0) aP0_0 yP0_0 gP0_0)))) := Hx_after (isC := [0, 1, 2, 3, 4, 5, 6, 7, 8, 9, 10, 11, 12]) (isR := [13, 14, 15, 16, 17, 18, 19, 20, 21, 22, 23, 24, 25, 26, 27, 28]) (pm := [16, 17, 18, 19, 20, 21, 22, 23, 24, 25, 26, 27, 28, 0, 1, 2, 3, 4, 5, 6, 7, 8, 9, 10, 11, 12, 13, 14, 15]) (wr := wX0 (aP0 0) aP0_0 yP0_0 gP0_0) X ⟨rfl, rfl, by decide, by decide, rfl, by decide⟩ ht hB hk hS
  clear hk hS ht hB
  generalize H1 = H at X ⊢
  generalize locs1 = locs at X ⊢
  refine lv_aload_n hx hb dX2_firstFault_26 rfl (lv_at hl 0 rfl) ?_
  refine lv_aload_n hx hb dX2_firstFault_27 rfl (lv_at hl 1 rfl) ?_
  refine lv_bipush (v := (52 : Int32)) hx hb dX2_firstFault_28 (by decide) ?_
  refine lv_aload_n hx hb dX2_firstFault_30 rfl (lv_at hl 1 rfl) ?_
  refine va_getN (D := D.1) (ci := 4) (v := .int (gI gP0 6)) (C := RX4) (T := TX4) (N := 14) hx hb hts wi_X4 hown X.1 X.2.1 2 rfl rfl 6 (by decide) (X.2.2.2.2.2.1.use q2_90 rfl) (fun _ h9 => h9) (fl_get (by decide)) dX2_firstFault_31 ?_
  obtain ⟨q_5, hc_6, hF⟩ := bnd_some hF
  refine cV_v (As := [.ref hP0, .int (52 : Int32), .int (gI gP0 6)]) (rest := []) C X (c_X2_compareAll l D hT aT yT aT_0 yT_0 hP0 aP0 yP0 n q_3 gT_0 gP0 (52 : Int32) (gI gP0 6) q_5 hc_6 _) (cwV 3 hts (good_V q4_180 q4_182 q0_36 q1_13 q4_183) rfl rfl rfl (by decide +kernel) ⟨Nat.le_of_ble_eq_true rfl, Nat.le_of_ble_eq_true rfl⟩) (va_recv X.1 X.2.1 (ci := 2) (q0 := 0) rfl rfl) (X.1.sub (tys' := tX2 yT ++ (tTP yT_0 ++ (tX4 yP0))) [0, 1, 2, 3, 4, 5, 6, 7, 8, 9, 10] rfl) (X.2.1.sub (ws' := wX2 hT aT yT q_3 ++ (wTP (aT 0) aT_0 yT_0 gT_0 ++ (wX4 hP0 aP0 yP0 gP0))) [0, 1, 2, 3, 4, 5, 6, 7, 8, 9, 10, 11, 12] rfl) (X.2.2.1.sub (ws' := wX2 hT aT yT q_3 ++ (wTP (aT 0) aT_0 yT_0 gT_0 ++ (wX4 hP0 aP0 yP0 gP0))) [0, 1, 2, 3, 4, 5, 6, 7, 8, 9, 10, 11, 12] (by decide) rfl) (free_of (wC := wX2 hT aT yT q_3 ++ (wTP (aT 0) aT_0 yT_0 gT_0 ++ (wX4 hP0 aP0 yP0 gP0))) (isC := [0, 1, 2, 3, 4, 5, 6, 7, 8, 9, 10, 11, 12]) X rfl) hl.1 rfl rfl (Nat.le_of_ble_eq_true rfl) dX2_firstFault_34 ⟨Nat.le_of_ble_eq_true rfl, Nat.le_of_ble_eq_true rfl⟩ (fun t H1 locs1 ht hB hk hS => ?_)
  have X : Hx D (tX2 yT ++ (tTP yT_0 ++ (tX4 yP0 ++ (tX0 yP0_0)))) A s H1 locs1 (wX2 hT aT yT q_5 ++ (wTP (aT 0) aT_0 yT_0 gT_0 ++ (wX4 hP0 aP0 yP0 gP0 ++ (wX0 (aP0 0) aP0_0 yP0_0 gP0_0)))) := Hx_after (isC := [0, 1, 2, 3, 4, 5, 6, 7, 8, 9, 10, 11, 12]) (isR := [13, 14, 15, 16, 17, 18, 19, 20, 21, 22, 23, 24, 25, 26, 27, 28]) (pm := [16, 17, 18, 19, 20, 21, 22, 23, 24, 25, 26, 27, 28, 0, 1, 2, 3, 4, 5, 6, 7, 8, 9, 10, 11, 12, 13, 14, 15]) (wr := wX0 (aP0 0) aP0_0 yP0_0 gP0_0) X ⟨rfl, rfl, by decide, by decide, rfl, by decide⟩ ht hB hk hS
  clear hk hS ht hB
  generalize H1 = H at X ⊢
  generalize locs1 = locs at X ⊢
  refine lv_aload_n hx hb dX2_firstFault_37 rfl (lv_at hl 0 rfl) ?_
  refine lv_aload_n hx hb dX2_firstFault_38 rfl (lv_at hl 1 rfl) ?_
  refine lv_aload_n hx hb dX2_firstFault_39 rfl (lv_at hl 1 rfl) ?_
  refine va_getN (D := D.1) (ci := 4) (v := .ref (aP0 0)) (C := RX4) (T := TX4) (N := 14) hx hb hts wi_X4 hown X.1 X.2.1 2 rfl rfl 0 (by decide) (X.2.2.2.2.2.1.use q2_70 rfl) (fun _ h9 => h9) (fl_get (by decide)) dX2_firstFault_40 ?_
  obtain ⟨q_7, hc_8, hF⟩ := bnd_some hF
  refine cV_v (As := [.ref hP0, .ref (aP0 0)]) (rest := []) C X (c_X2_resolve l D hT aT yT aT_0 yT_0 hP0 aP0 yP0 (aP0 0) aP0_0 yP0_0 n q_5 gT_0 gP0 gP0_0 q_7 hc_8 _) (cwV 2 hts (good_V q4_200 q4_202 q0_40 q1_13 q4_203) rfl rfl rfl (by decide +kernel) ⟨Nat.le_of_ble_eq_true rfl, Nat.le_of_ble_eq_true rfl⟩) (va_recv X.1 X.2.1 (ci := 2) (q0 := 0) rfl rfl) X.1 X.2.1 X.2.2.1 (free_all X) hl.1 rfl rfl (Nat.le_of_ble_eq_true rfl) dX2_firstFault_43 ⟨Nat.le_of_ble_eq_true rfl, Nat.le_of_ble_eq_true rfl⟩ (fun t H1 locs1 ht hB hk hS => ?_)
  have X : Hx D (tX2 yT ++ (tTP yT_0 ++ (tX4 yP0 ++ (tX0 yP0_0)))) A s H1 locs1 (wX2 hT aT yT q_7.1 ++ (wTP (aT 0) aT_0 yT_0 gT_0 ++ (wX4 hP0 aP0 yP0 gP0 ++ (wX0 (aP0 0) aP0_0 yP0_0 q_7.2)))) := Hx_after_all X ht hB hS
  clear hk hS ht hB
  generalize H1 = H at X ⊢
  generalize locs1 = locs at X ⊢
  refine lv_aload_n hx hb dX2_firstFault_46 rfl (lv_at hl 0 rfl) ?_
  refine va_get (D := D.1) (ci := 2) (v := .int (gI q_7.1 1)) (C := RX2) (T := TX2) (N := 2) hx hb hts wi_X2 hown X.1 X.2.1 0 rfl rfl 1 (by decide) (hts _ q3_45) (fun _ h9 => h9) (fl_get (by decide)) dX2_firstFault_47 ?_
  have hq := Option.some.inj hF
  subst hq
  exact rt_i C X dX2_firstFault_50

/-! ### X2_firstFaultAsked -/
theorem dX2_firstFaultAsked_0 : decode cX2_firstFaultAsked 0 = .ok (.aload_n 0, 1) := by decide +kernel
theorem dX2_firstFaultAsked_1 : decode cX2_firstFaultAsked 1 = .ok (.iconst (-1), 1) := by decide +kernel
theorem dX2_firstFaultAsked_2 : decode cX2_firstFaultAsked 2 = .ok (.putfield 9, 3) := by decide +kernel
theorem dX2_firstFaultAsked_5 : decode cX2_firstFaultAsked 5 = .ok (.aload_n 0, 1) := by decide +kernel
theorem dX2_firstFaultAsked_6 : decode cX2_firstFaultAsked 6 = .ok (.aload_n 1, 1) := by decide +kernel
theorem dX2_firstFaultAsked_7 : decode cX2_firstFaultAsked 7 = .ok (.aload_n 2, 1) := by decide +kernel
theorem dX2_firstFaultAsked_8 : decode cX2_firstFaultAsked 8 = .ok (.invokevirtual 38, 3) := by decide +kernel
theorem dX2_firstFaultAsked_11 : decode cX2_firstFaultAsked 11 = .ok (.aload_n 0, 1) := by decide +kernel
theorem dX2_firstFaultAsked_12 : decode cX2_firstFaultAsked 12 = .ok (.getfield 9, 3) := by decide +kernel
theorem dX2_firstFaultAsked_15 : decode cX2_firstFaultAsked 15 = .ok (.ireturn, 1) := by decide +kernel
abbrev R_X2_firstFaultAsked : Room := ({ frames := 3, cells := 0, slots := 0, locals := 114 } : Room)
def f_X2_firstFaultAsked (n : Nat) (gT : Gs) (gT_0 : Gs) (gP0 : Gs) (gP1 : Gs) : Option (Int32 × Gs × Gs) :=
  bnd (f_X2_resolve n (sI gT 1 (-1 : Int32)) gT_0 gP0 gP1) (fun q_1 => some (gI q_1.1 1, q_1.1, q_1.2))
set_option maxHeartbeats 4000000 in
set_option maxRecDepth 100000 in
theorem c_X2_firstFaultAsked (l : Launch) (D : Dx) (hT : Nat) (aT : Nat → Nat) (yT : Nat → ClassId) (aT_0 : Nat → Nat) (yT_0 : Nat → ClassId) (hP0 : Nat) (aP0 : Nat → Nat) (yP0 : Nat → ClassId) (hP1 : Nat) (aP1 : Nat → Nat) (yP1 : Nat → ClassId) (n : Nat) (gT : Gs) (gT_0 : Gs) (gP0 : Gs) (gP1 : Gs) (q : Int32 × Gs × Gs) (hF : f_X2_firstFaultAsked n gT gT_0 gP0 gP1 = some q) (sz : Nat) : Met l yX2_firstFaultAsked (ws_ yX2_firstFaultAsked cX2_firstFaultAsked 3 (some .int)) R_X2_firstFaultAsked (PC D (tX2 yT ++ (tTP yT_0 ++ (tX4 yP0 ++ (tX0 yP1)))) [.ref hT, .ref hP0, .ref hP1] (wX2 hT aT yT gT ++ (wTP (aT 0) aT_0 yT_0 gT_0 ++ (wX4 hP0 aP0 yP0 gP0 ++ (wX0 hP1 aP1 yP1 gP1)))) sz) (QI D (va_A (wX2 hT aT yT gT ++ (wTP (aT 0) aT_0 yT_0 gT_0 ++ (wX4 hP0 aP0 yP0 gP0 ++ (wX0 hP1 aP1 yP1 gP1)))) sz) (wX2 hT aT yT q.2.1 ++ (wTP (aT 0) aT_0 yT_0 gT_0 ++ (wX4 hP0 aP0 yP0 gP0 ++ (wX0 hP1 aP1 yP1 q.2.2)))) q.1) 0 0 (va_A (wX2 hT aT yT gT ++ (wTP (aT 0) aT_0 yT_0 gT_0 ++ (wX4 hP0 aP0 yP0 gP0 ++ (wX0 hP1 aP1 yP1 gP1)))) sz) := by
  refine Met.ofW (cc := cX2_firstFaultAsked) (maxL := 3) (ret := (some .int)) (by decide) rfl ?_
  intro p e s m args below meth c s₁ B hml hv
  obtain ⟨rfl, hsz, hP, hK, hD, hN⟩ := hv
  subst hsz
  have C : Cx p s m _ meth c cX2_firstFaultAsked (some .int) 3 RX2 lw_all := Cx_of B hml
  have X := Hx_start hP hK hD hN
  obtain ⟨hx, hb, hr, -, hown, hts, hlk⟩ := id C
  generalize va_A (wX2 hT aT yT gT ++ (wTP (aT 0) aT_0 yT_0 gT_0 ++ (wX4 hP0 aP0 yP0 gP0 ++ (wX0 hP1 aP1 yP1 gP1)))) s.heap.size = A at X ⊢
  have hl := lv_entry ([.ref hT, .ref hP0, .ref hP1]) (n := 3) (Nat.le_of_ble_eq_true rfl)
  rw [lg_entry_eq]
  generalize (lg_sl ([.ref hT, .ref hP0, .ref hP1]) ++ List.replicate (3 - (lg_sl ([.ref hT, .ref hP0, .ref hP1])).length) Slot.unset).toArray = ls at hl ⊢
  have hl : lv_has ls 3 [(0, .ref hT), (1, .ref hP0), (2, .ref hP1)] := hl
  unfold f_X2_firstFaultAsked at hF
  refine lv_aload_n hx hb dX2_firstFaultAsked_0 rfl (lv_at hl 0 rfl) ?_
  refine lv_iconst (v := (-1 : Int32)) hx hb dX2_firstFaultAsked_1 (by decide) ?_
  refine va_put (D := D.1) (ci := 2) (v := .int (-1 : Int32)) (ty := .int) (C := RX2) (T := TX2) (N := 2) hx hb hts wi_X2 tyX2 tyX2_ok nmX2 hown X.1 X.2.1 X.2.2.1 X.2.2.2.1 0 rfl rfl 1 (by decide) (hts _ q3_45) (fun _ h9 => h9) rfl (by decide +kernel) rfl rfl (by rw [List.length_map, List.length_range]; decide) dX2_firstFaultAsked_2 (fun H locs hP hD hS => ?_)
  have X : Hx D (tX2 yT ++ (tTP yT_0 ++ (tX4 yP0 ++ (tX0 yP1)))) A s H locs (wX2 hT aT yT (sI gT 1 (-1 : Int32)) ++ (wTP (aT 0) aT_0 yT_0 gT_0 ++ (wX4 hP0 aP0 yP0 gP0 ++ (wX0 hP1 aP1 yP1 gP1)))) := Hx_set X (set_l (by rw [wG_len (m := 1) rfl]; decide) (wG_sI (k := 1) rfl)) hP hD hS
  refine lv_aload_n hx hb dX2_firstFaultAsked_5 rfl (lv_at hl 0 rfl) ?_
  refine lv_aload_n hx hb dX2_firstFaultAsked_6 rfl (lv_at hl 1 rfl) ?_
  refine lv_aload_n hx hb dX2_firstFaultAsked_7 rfl (lv_at hl 2 rfl) ?_
  obtain ⟨q_1, hc_2, hF⟩ := bnd_some hF
  refine cV_v (As := [.ref hP0, .ref hP1]) (rest := []) C X (c_X2_resolve l D hT aT yT aT_0 yT_0 hP0 aP0 yP0 hP1 aP1 yP1 n (sI gT 1 (-1 : Int32)) gT_0 gP0 gP1 q_1 hc_2 _) (cwV 2 hts (good_V q4_200 q4_202 q0_40 q1_13 q4_203) rfl rfl rfl (by decide +kernel) ⟨Nat.le_of_ble_eq_true rfl, Nat.le_of_ble_eq_true rfl⟩) (va_recv X.1 X.2.1 (ci := 2) (q0 := 0) rfl rfl) X.1 X.2.1 X.2.2.1 (free_all X) hl.1 rfl rfl (Nat.le_of_ble_eq_true rfl) dX2_firstFaultAsked_8 ⟨Nat.le_of_ble_eq_true rfl, Nat.le_of_ble_eq_true rfl⟩ (fun t H1 locs1 ht hB hk hS => ?_)
  have X : Hx D (tX2 yT ++ (tTP yT_0 ++ (tX4 yP0 ++ (tX0 yP1)))) A s H1 locs1 (wX2 hT aT yT q_1.1 ++ (wTP (aT 0) aT_0 yT_0 gT_0 ++ (wX4 hP0 aP0 yP0 gP0 ++ (wX0 hP1 aP1 yP1 q_1.2)))) := Hx_after_all X ht hB hS
  clear hk hS ht hB
  generalize H1 = H at X ⊢
  generalize locs1 = locs at X ⊢
  refine lv_aload_n hx hb dX2_firstFaultAsked_11 rfl (lv_at hl 0 rfl) ?_
  refine va_get (D := D.1) (ci := 2) (v := .int (gI q_1.1 1)) (C := RX2) (T := TX2) (N := 2) hx hb hts wi_X2 hown X.1 X.2.1 0 rfl rfl 1 (by decide) (hts _ q3_45) (fun _ h9 => h9) (fl_get (by decide)) dX2_firstFaultAsked_12 ?_
  have hq := Option.some.inj hF
  subst hq
  exact rt_i C X dX2_firstFaultAsked_15
