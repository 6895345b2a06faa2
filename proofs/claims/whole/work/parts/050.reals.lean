def kdX6 (k : Nat) : Nat := ([3] : List Nat).getD k 9
def ksX6 : List Nat := [0]
def akX6 (k : Nat) : Nat := ([2] : List Nat).getD k 9
def lnX6 (k : Nat) : Nat := ([2098] : List Nat).getD k 0
def tkX6 (k : Nat) : FieldType := ([.double] : List FieldType).getD k .int
abbrev wX6 (h : Nat) (a : Nat → Nat) (y : Nat → ClassId) (g : Gs) : va_W := wG 6 1 kdX6 ksX6 akX6 lnX6 h a y g
abbrev tX6 (y : Nat → ClassId) : List (ClassId × FieldType) := tG ksX6 tkX6 y
theorem ndX6 : va_nd ksX6 = true := by decide
theorem wi_X6 : ∀ w ∈ u_ws RX6 TX6 1, w ∈ lw_all := wi_all (wi_eq rfl (wi_ch tc_1 [42]))
theorem q5_207 : Cond.constantLong RX6 19 (2047) ∈ lw_all := lw_in (tc_5 (List.mem_of_getElem? (i := 207) rfl)) rfl
theorem q5_211 : Cond.constantLong RX6 21 (255) ∈ lw_all := lw_in (tc_5 (List.mem_of_getElem? (i := 211) rfl)) rfl
theorem q3_218 : Cond.constantDouble RX6 23 (9218868437227405311) ∈ lw_all := lw_in (tc_3 (List.mem_of_getElem? (i := 218) rfl)) rfl
theorem q3_219 : Cond.constantDouble RX6 25 (18442240474082181119) ∈ lw_all := lw_in (tc_3 (List.mem_of_getElem? (i := 219) rfl)) rfl
theorem q5_70 : Cond.methodLink RX6 27 yX6_sizeOf ∈ lw_all := lw_in (tc_5 (List.mem_of_getElem? (i := 70) rfl)) rfl
theorem q5_71 : Cond.static yX6_sizeOf ∈ lw_all := lw_in (tc_5 (List.mem_of_getElem? (i := 71) rfl)) rfl
theorem q1_2 : Cond.initialized RX6 ∈ lw_all := lw_in (tc_1 (List.mem_of_getElem? (i := 2) rfl)) rfl
theorem q5_72 : Cond.code yX6_sizeOf cX6_sizeOf 2 (some .double) ∈ lw_all := lw_in (tc_5 (List.mem_of_getElem? (i := 72) rfl)) rfl
theorem q5_73 : Cond.constantDouble RX6 31 (4841369599423283200) ∈ lw_all := lw_in (tc_5 (List.mem_of_getElem? (i := 73) rfl)) rfl
theorem q5_77 : Cond.methodLink RX6 33 yX6_floorOf ∈ lw_all := lw_in (tc_5 (List.mem_of_getElem? (i := 77) rfl)) rfl
theorem q5_68 : Cond.static yX6_floorOf ∈ lw_all := lw_in (tc_5 (List.mem_of_getElem? (i := 68) rfl)) rfl
theorem q5_69 : Cond.code yX6_floorOf cX6_floorOf 4 (some .double) ∈ lw_all := lw_in (tc_5 (List.mem_of_getElem? (i := 69) rfl)) rfl
theorem q1_40 : Cond.constantDouble RX6 17 (4602678819172646912) ∈ lw_all := lw_in (tc_1 (List.mem_of_getElem? (i := 40) rfl)) rfl
theorem q5_81 : Cond.methodLink RX6 36 yX6_isNegative ∈ lw_all := lw_in (tc_5 (List.mem_of_getElem? (i := 81) rfl)) rfl
theorem q5_82 : Cond.static yX6_isNegative ∈ lw_all := lw_in (tc_5 (List.mem_of_getElem? (i := 82) rfl)) rfl
theorem q5_83 : Cond.code yX6_isNegative cX6_isNegative 2 (some .boolean) ∈ lw_all := lw_in (tc_5 (List.mem_of_getElem? (i := 83) rfl)) rfl
theorem q1_41 : Cond.fieldLink RX6 11 "TurningHall$Reals" "twoTo" "[D" ∈ lw_all := lw_in (tc_1 (List.mem_of_getElem? (i := 41) rfl)) rfl
theorem q5_106 : Cond.methodLink RX6 48 yX6_powerOf ∈ lw_all := lw_in (tc_5 (List.mem_of_getElem? (i := 106) rfl)) rfl
theorem q5_108 : Cond.instanceMethod yX6_powerOf ∈ lw_all := lw_in (tc_5 (List.mem_of_getElem? (i := 108) rfl)) rfl
theorem q0_55 : Cond.selects RX6 yX6_powerOf yX6_powerOf ∈ lw_all := lw_in (tc_0 (List.mem_of_getElem? (i := 55) rfl)) rfl
theorem q5_109 : Cond.code yX6_powerOf cX6_powerOf 7 (some .int) ∈ lw_all := lw_in (tc_5 (List.mem_of_getElem? (i := 109) rfl)) rfl
theorem q5_110 : Cond.methodLink RX6 52 Lib.Math.max.name ∈ lw_all := lw_in (tc_5 (List.mem_of_getElem? (i := 110) rfl)) rfl
theorem q4_13 : Cond.static Lib.Math.max.name ∈ lw_all := lw_in (tc_4 (List.mem_of_getElem? (i := 13) rfl)) rfl
theorem q1_14 : Cond.initialized "java/lang/Math" ∈ lw_all := lw_in (tc_1 (List.mem_of_getElem? (i := 14) rfl)) rfl
theorem q4_14 : Cond.code Lib.Math.max.name Lib.Math.max.code 2 (some .int) ∈ lw_all := lw_in (tc_4 (List.mem_of_getElem? (i := 14) rfl)) rfl
theorem q5_111 : Cond.methodLink RX6 58 yX6_scaled ∈ lw_all := lw_in (tc_5 (List.mem_of_getElem? (i := 111) rfl)) rfl
theorem q3_212 : Cond.instanceMethod yX6_scaled ∈ lw_all := lw_in (tc_3 (List.mem_of_getElem? (i := 212) rfl)) rfl
theorem q3_213 : Cond.selects RX6 yX6_scaled yX6_scaled ∈ lw_all := lw_in (tc_3 (List.mem_of_getElem? (i := 213) rfl)) rfl
theorem q3_214 : Cond.code yX6_scaled cX6_scaled 7 (some .double) ∈ lw_all := lw_in (tc_3 (List.mem_of_getElem? (i := 214) rfl)) rfl
theorem q5_185 : Cond.methodLink RX6 40 yX6_packed ∈ lw_all := lw_in (tc_5 (List.mem_of_getElem? (i := 185) rfl)) rfl
theorem q5_187 : Cond.instanceMethod yX6_packed ∈ lw_all := lw_in (tc_5 (List.mem_of_getElem? (i := 187) rfl)) rfl
theorem q0_60 : Cond.selects RX6 yX6_packed yX6_packed ∈ lw_all := lw_in (tc_0 (List.mem_of_getElem? (i := 60) rfl)) rfl
theorem q5_188 : Cond.code yX6_packed cX6_packed 10 (some .long) ∈ lw_all := lw_in (tc_5 (List.mem_of_getElem? (i := 188) rfl)) rfl
theorem q5_189 : Cond.constantLong RX6 44 (-9223372036854775808) ∈ lw_all := lw_in (tc_5 (List.mem_of_getElem? (i := 189) rfl)) rfl
theorem q5_194 : Cond.constantLong RX6 46 (2147483648) ∈ lw_all := lw_in (tc_5 (List.mem_of_getElem? (i := 194) rfl)) rfl
theorem q5_190 : Cond.methodLink RX6 66 yX6_floatBits ∈ lw_all := lw_in (tc_5 (List.mem_of_getElem? (i := 190) rfl)) rfl
theorem q5_191 : Cond.instanceMethod yX6_floatBits ∈ lw_all := lw_in (tc_5 (List.mem_of_getElem? (i := 191) rfl)) rfl
theorem q5_192 : Cond.selects RX6 yX6_floatBits yX6_floatBits ∈ lw_all := lw_in (tc_5 (List.mem_of_getElem? (i := 192) rfl)) rfl
theorem q5_193 : Cond.code yX6_floatBits cX6_floatBits 3 (some .long) ∈ lw_all := lw_in (tc_5 (List.mem_of_getElem? (i := 193) rfl)) rfl
theorem q5_181 : Cond.methodLink RX6 62 yX6_bits ∈ lw_all := lw_in (tc_5 (List.mem_of_getElem? (i := 181) rfl)) rfl
theorem q5_182 : Cond.instanceMethod yX6_bits ∈ lw_all := lw_in (tc_5 (List.mem_of_getElem? (i := 182) rfl)) rfl
theorem q5_183 : Cond.selects RX6 yX6_bits yX6_bits ∈ lw_all := lw_in (tc_5 (List.mem_of_getElem? (i := 183) rfl)) rfl
theorem q5_184 : Cond.code yX6_bits cX6_bits 3 (some .long) ∈ lw_all := lw_in (tc_5 (List.mem_of_getElem? (i := 184) rfl)) rfl
theorem q5_222 : Cond.constantLong RX6 75 (8388607) ∈ lw_all := lw_in (tc_5 (List.mem_of_getElem? (i := 222) rfl)) rfl
theorem q5_218 : Cond.methodLink RX6 71 yX6_unpacked ∈ lw_all := lw_in (tc_5 (List.mem_of_getElem? (i := 218) rfl)) rfl
theorem q5_220 : Cond.instanceMethod yX6_unpacked ∈ lw_all := lw_in (tc_5 (List.mem_of_getElem? (i := 220) rfl)) rfl
theorem q0_61 : Cond.selects RX6 yX6_unpacked yX6_unpacked ∈ lw_all := lw_in (tc_0 (List.mem_of_getElem? (i := 61) rfl)) rfl
theorem q5_221 : Cond.code yX6_unpacked cX6_unpacked 8 (some .double) ∈ lw_all := lw_in (tc_5 (List.mem_of_getElem? (i := 221) rfl)) rfl
theorem q5_217 : Cond.constantLong RX6 69 (4503599627370495) ∈ lw_all := lw_in (tc_5 (List.mem_of_getElem? (i := 217) rfl)) rfl
theorem q5_112 : Cond.methodLink RX6 77 Lib.Math.min.name ∈ lw_all := lw_in (tc_5 (List.mem_of_getElem? (i := 112) rfl)) rfl
theorem q3_128 : Cond.static Lib.Math.min.name ∈ lw_all := lw_in (tc_3 (List.mem_of_getElem? (i := 128) rfl)) rfl
theorem q3_129 : Cond.code Lib.Math.min.name Lib.Math.min.code 2 (some .int) ∈ lw_all := lw_in (tc_3 (List.mem_of_getElem? (i := 129) rfl)) rfl
theorem q5_123 : Cond.methodLink RX6 80 yX6_remainder ∈ lw_all := lw_in (tc_5 (List.mem_of_getElem? (i := 123) rfl)) rfl
theorem q5_103 : Cond.instanceMethod yX6_remainder ∈ lw_all := lw_in (tc_5 (List.mem_of_getElem? (i := 103) rfl)) rfl
theorem q5_104 : Cond.selects RX6 yX6_remainder yX6_remainder ∈ lw_all := lw_in (tc_5 (List.mem_of_getElem? (i := 104) rfl)) rfl
theorem q5_105 : Cond.code yX6_remainder cX6_remainder 17 (some .double) ∈ lw_all := lw_in (tc_5 (List.mem_of_getElem? (i := 105) rfl)) rfl
/-! ### X6_isFinite -/
theorem dX6_isFinite_0 : decode cX6_isFinite 0 = .ok (.lload_n 0, 1) := by decide +kernel
theorem dX6_isFinite_1 : decode cX6_isFinite 1 = .ok (.bipush 52, 2) := by decide +kernel
theorem dX6_isFinite_3 : decode cX6_isFinite 3 = .ok (.lushr, 1) := by decide +kernel
theorem dX6_isFinite_4 : decode cX6_isFinite 4 = .ok (.ldc2_w 19, 3) := by decide +kernel
theorem dX6_isFinite_7 : decode cX6_isFinite 7 = .ok (.land, 1) := by decide +kernel
theorem dX6_isFinite_8 : decode cX6_isFinite 8 = .ok (.ldc2_w 19, 3) := by decide +kernel
theorem dX6_isFinite_11 : decode cX6_isFinite 11 = .ok (.lcmp, 1) := by decide +kernel
theorem dX6_isFinite_12 : decode cX6_isFinite 12 = .ok (.ifCond .eq 7, 3) := by decide +kernel
theorem dX6_isFinite_15 : decode cX6_isFinite 15 = .ok (.iconst 1, 1) := by decide +kernel
theorem dX6_isFinite_16 : decode cX6_isFinite 16 = .ok (.goto 4, 3) := by decide +kernel
theorem dX6_isFinite_19 : decode cX6_isFinite 19 = .ok (.iconst 0, 1) := by decide +kernel
theorem dX6_isFinite_20 : decode cX6_isFinite 20 = .ok (.ireturn, 1) := by decide +kernel
abbrev R_X6_isFinite : Room := ({ frames := 0, cells := 0, slots := 0, locals := 0 } : Room)
def f_X6_isFinite (x0 : Int64) : Option (Int32) :=
  if (((x0.toUInt64 >>> ((52 : Int32).toInt64.toUInt64 &&& Int64.toUInt64 63)).toInt64) &&& (2047 : Int64)) = (2047 : Int64) then (some (0 : Int32)) else (some (1 : Int32))
set_option maxHeartbeats 4000000 in
set_option maxRecDepth 100000 in
theorem c_X6_isFinite (l : Launch) (D : Dx) (x0 : Int64) (q : Int32) (hF : f_X6_isFinite x0 = some q) (sz : Nat) : Met l yX6_isFinite (ws_ yX6_isFinite cX6_isFinite 2 (some .boolean)) R_X6_isFinite (PC D ([]) [.long x0] ([]) sz) (QI D (va_A ([]) sz) ([]) q) 0 0 (va_A ([]) sz) := by
  refine Met.ofW (cc := cX6_isFinite) (maxL := 2) (ret := (some .boolean)) (by decide) rfl ?_
  intro p e s m args below meth c s₁ B hml hv
  obtain ⟨rfl, hsz, hP, hK, hD, hN⟩ := hv
  subst hsz
  have C : Cx p s m _ meth c cX6_isFinite (some .boolean) 2 RX6 lw_all := Cx_of B hml
  have X := Hx_start hP hK hD hN
  obtain ⟨hx, hb, hr, -, hown, hts, hlk⟩ := id C
  generalize va_A ([]) s.heap.size = A at X ⊢
  have hl := lv_entry ([.long x0]) (n := 2) (Nat.le_of_ble_eq_true rfl)
  rw [lg_entry_eq]
  generalize (lg_sl ([.long x0]) ++ List.replicate (2 - (lg_sl ([.long x0])).length) Slot.unset).toArray = ls at hl ⊢
  have hl : lv_has ls 2 [(0, .long x0)] := hl
  unfold f_X6_isFinite at hF
  refine lv_lload_n hx hb dX6_isFinite_0 rfl (lv_at hl 0 rfl) ?_
  refine lv_bipush (v := (52 : Int32)) hx hb dX6_isFinite_1 (by decide) ?_
  refine lv_lushr hx hb dX6_isFinite_3 rfl ?_
  refine lv_ldc2 hx hb hown (hts _ q5_207) dX6_isFinite_4 ?_
  refine lv_land hx hb dX6_isFinite_7 ?_
  refine lv_ldc2 hx hb hown (hts _ q5_207) dX6_isFinite_8 ?_
  refine W.lcmp hx hb dX6_isFinite_11 ?_
  refine lv_if_eq (tgt := 19) hx hb dX6_isFinite_12 (by decide) (fun c => ?_) (fun c => ?_)
  · have c := (lg_cmp_eq _ _).mp c
    replace hF := iT c hF
    refine lv_iconst (v := (0 : Int32)) hx hb dX6_isFinite_19 (by decide) ?_
    have hq := Option.some.inj hF
    subst hq
    exact rt_z (v := (0 : Int32)) C X (by decide) dX6_isFinite_20
  · have c := fun h => c ((lg_cmp_eq _ _).mpr h)
    replace hF := iF c hF
    refine lv_iconst (v := (1 : Int32)) hx hb dX6_isFinite_15 (by decide) ?_
    refine lv_goto (tgt := 20) hx hb dX6_isFinite_16 (by decide) ?_
    have hq := Option.some.inj hF
    subst hq
    exact rt_z (v := (1 : Int32)) C X (by decide) dX6_isFinite_20

/-! ### X6_isFiniteFloat -/
theorem dX6_isFiniteFloat_0 : decode cX6_isFiniteFloat 0 = .ok (.lload_n 0, 1) := by decide +kernel
theorem dX6_isFiniteFloat_1 : decode cX6_isFiniteFloat 1 = .ok (.bipush 23, 2) := by decide +kernel
theorem dX6_isFiniteFloat_3 : decode cX6_isFiniteFloat 3 = .ok (.lushr, 1) := by decide +kernel
theorem dX6_isFiniteFloat_4 : decode cX6_isFiniteFloat 4 = .ok (.ldc2_w 21, 3) := by decide +kernel
theorem dX6_isFiniteFloat_7 : decode cX6_isFiniteFloat 7 = .ok (.land, 1) := by decide +kernel
theorem dX6_isFiniteFloat_8 : decode cX6_isFiniteFloat 8 = .ok (.ldc2_w 21, 3) := by decide +kernel
theorem dX6_isFiniteFloat_11 : decode cX6_isFiniteFloat 11 = .ok (.lcmp, 1) := by decide +kernel
theorem dX6_isFiniteFloat_12 : decode cX6_isFiniteFloat 12 = .ok (.ifCond .eq 7, 3) := by decide +kernel
theorem dX6_isFiniteFloat_15 : decode cX6_isFiniteFloat 15 = .ok (.iconst 1, 1) := by decide +kernel
theorem dX6_isFiniteFloat_16 : decode cX6_isFiniteFloat 16 = .ok (.goto 4, 3) := by decide +kernel
theorem dX6_isFiniteFloat_19 : decode cX6_isFiniteFloat 19 = .ok (.iconst 0, 1) := by decide +kernel
theorem dX6_isFiniteFloat_20 : decode cX6_isFiniteFloat 20 = .ok (.ireturn, 1) := by decide +kernel
abbrev R_X6_isFiniteFloat : Room := ({ frames := 0, cells := 0, slots := 0, locals := 0 } : Room)
def f_X6_isFiniteFloat (x0 : Int64) : Option (Int32) :=
  if (((x0.toUInt64 >>> ((23 : Int32).toInt64.toUInt64 &&& Int64.toUInt64 63)).toInt64) &&& (255 : Int64)) = (255 : Int64) then (some (0 : Int32)) else (some (1 : Int32))
set_option maxHeartbeats 4000000 in
set_option maxRecDepth 100000 in
theorem c_X6_isFiniteFloat (l : Launch) (D : Dx) (x0 : Int64) (q : Int32) (hF : f_X6_isFiniteFloat x0 = some q) (sz : Nat) : Met l yX6_isFiniteFloat (ws_ yX6_isFiniteFloat cX6_isFiniteFloat 2 (some .boolean)) R_X6_isFiniteFloat (PC D ([]) [.long x0] ([]) sz) (QI D (va_A ([]) sz) ([]) q) 0 0 (va_A ([]) sz) := by
  refine Met.ofW (cc := cX6_isFiniteFloat) (maxL := 2) (ret := (some .boolean)) (by decide) rfl ?_
  intro p e s m args below meth c s₁ B hml hv
  obtain ⟨rfl, hsz, hP, hK, hD, hN⟩ := hv
  subst hsz
  have C : Cx p s m _ meth c cX6_isFiniteFloat (some .boolean) 2 RX6 lw_all := Cx_of B hml
  have X := Hx_start hP hK hD hN
  obtain ⟨hx, hb, hr, -, hown, hts, hlk⟩ := id C
  generalize va_A ([]) s.heap.size = A at X ⊢
  have hl := lv_entry ([.long x0]) (n := 2) (Nat.le_of_ble_eq_true rfl)
  rw [lg_entry_eq]
  generalize (lg_sl ([.long x0]) ++ List.replicate (2 - (lg_sl ([.long x0])).length) Slot.unset).toArray = ls at hl ⊢
  have hl : lv_has ls 2 [(0, .long x0)] := hl
  unfold f_X6_isFiniteFloat at hF
  refine lv_lload_n hx hb dX6_isFiniteFloat_0 rfl (lv_at hl 0 rfl) ?_
  refine lv_bipush (v := (23 : Int32)) hx hb dX6_isFiniteFloat_1 (by decide) ?_
  refine lv_lushr hx hb dX6_isFiniteFloat_3 rfl ?_
  refine lv_ldc2 hx hb hown (hts _ q5_211) dX6_isFiniteFloat_4 ?_
  refine lv_land hx hb dX6_isFiniteFloat_7 ?_
  refine lv_ldc2 hx hb hown (hts _ q5_211) dX6_isFiniteFloat_8 ?_
  refine W.lcmp hx hb dX6_isFiniteFloat_11 ?_
  refine lv_if_eq (tgt := 19) hx hb dX6_isFiniteFloat_12 (by decide) (fun c => ?_) (fun c => ?_)
  · have c := (lg_cmp_eq _ _).mp c
    replace hF := iT c hF
    refine lv_iconst (v := (0 : Int32)) hx hb dX6_isFiniteFloat_19 (by decide) ?_
    have hq := Option.some.inj hF
    subst hq
    exact rt_z (v := (0 : Int32)) C X (by decide) dX6_isFiniteFloat_20
  · have c := fun h => c ((lg_cmp_eq _ _).mpr h)
    replace hF := iF c hF
    refine lv_iconst (v := (1 : Int32)) hx hb dX6_isFiniteFloat_15 (by decide) ?_
    refine lv_goto (tgt := 20) hx hb dX6_isFiniteFloat_16 (by decide) ?_
    have hq := Option.some.inj hF
    subst hq
    exact rt_z (v := (1 : Int32)) C X (by decide) dX6_isFiniteFloat_20

/-! ### X6_isBeyond -/
theorem dX6_isBeyond_0 : decode cX6_isBeyond 0 = .ok (.dload_n 0, 1) := by decide +kernel
theorem dX6_isBeyond_1 : decode cX6_isBeyond 1 = .ok (.ldc2_w 23, 3) := by decide +kernel
theorem dX6_isBeyond_4 : decode cX6_isBeyond 4 = .ok (.dcmp .l, 1) := by decide +kernel
theorem dX6_isBeyond_5 : decode cX6_isBeyond 5 = .ok (.ifCond .gt 11, 3) := by decide +kernel
theorem dX6_isBeyond_8 : decode cX6_isBeyond 8 = .ok (.dload_n 0, 1) := by decide +kernel
theorem dX6_isBeyond_9 : decode cX6_isBeyond 9 = .ok (.ldc2_w 25, 3) := by decide +kernel
theorem dX6_isBeyond_12 : decode cX6_isBeyond 12 = .ok (.dcmp .g, 1) := by decide +kernel
theorem dX6_isBeyond_13 : decode cX6_isBeyond 13 = .ok (.ifCond .ge 7, 3) := by decide +kernel
theorem dX6_isBeyond_16 : decode cX6_isBeyond 16 = .ok (.iconst 1, 1) := by decide +kernel
theorem dX6_isBeyond_17 : decode cX6_isBeyond 17 = .ok (.goto 4, 3) := by decide +kernel
theorem dX6_isBeyond_20 : decode cX6_isBeyond 20 = .ok (.iconst 0, 1) := by decide +kernel
theorem dX6_isBeyond_21 : decode cX6_isBeyond 21 = .ok (.ireturn, 1) := by decide +kernel
abbrev R_X6_isBeyond : Room := ({ frames := 0, cells := 0, slots := 0, locals := 0 } : Room)
def f_X6_isBeyond (x0 : UInt64) : Option (Int32) :=
  if 0 < (Op.cmpValue (FP.dcmp x0 (9218868437227405311 : UInt64)) .l) then (some (1 : Int32)) else (if 0 ≤ (Op.cmpValue (FP.dcmp x0 (18442240474082181119 : UInt64)) .g) then (some (0 : Int32)) else (some (1 : Int32)))
set_option maxHeartbeats 4000000 in
set_option maxRecDepth 100000 in
theorem c_X6_isBeyond (l : Launch) (D : Dx) (x0 : UInt64) (q : Int32) (hF : f_X6_isBeyond x0 = some q) (sz : Nat) : Met l yX6_isBeyond (ws_ yX6_isBeyond cX6_isBeyond 2 (some .boolean)) R_X6_isBeyond (PC D ([]) [.double x0] ([]) sz) (QI D (va_A ([]) sz) ([]) q) 0 0 (va_A ([]) sz) := by
  refine Met.ofW (cc := cX6_isBeyond) (maxL := 2) (ret := (some .boolean)) (by decide) rfl ?_
  intro p e s m args below meth c s₁ B hml hv
  obtain ⟨rfl, hsz, hP, hK, hD, hN⟩ := hv
  subst hsz
  have C : Cx p s m _ meth c cX6_isBeyond (some .boolean) 2 RX6 lw_all := Cx_of B hml
  have X := Hx_start hP hK hD hN
  obtain ⟨hx, hb, hr, -, hown, hts, hlk⟩ := id C
  generalize va_A ([]) s.heap.size = A at X ⊢
  have hl := lv_entry ([.double x0]) (n := 2) (Nat.le_of_ble_eq_true rfl)
  rw [lg_entry_eq]
  generalize (lg_sl ([.double x0]) ++ List.replicate (2 - (lg_sl ([.double x0])).length) Slot.unset).toArray = ls at hl ⊢
  have hl : lv_has ls 2 [(0, .double x0)] := hl
  unfold f_X6_isBeyond at hF
  refine lv_dload_n hx hb dX6_isBeyond_0 rfl (lv_at hl 0 rfl) ?_
  refine lv_ldc2d hx hb hown (hts _ q3_218) dX6_isBeyond_1 ?_
  refine lv_dcmp hx hb dX6_isBeyond_4 ?_
  refine lv_if_gt (tgt := 16) hx hb dX6_isBeyond_5 (by decide) (fun c => ?_) (fun c => ?_)
  · replace hF := iT c hF
    refine lv_iconst (v := (1 : Int32)) hx hb dX6_isBeyond_16 (by decide) ?_
    refine lv_goto (tgt := 21) hx hb dX6_isBeyond_17 (by decide) ?_
    have hq := Option.some.inj hF
    subst hq
    exact rt_z (v := (1 : Int32)) C X (by decide) dX6_isBeyond_21
  · replace hF := iF c hF
    refine lv_dload_n hx hb dX6_isBeyond_8 rfl (lv_at hl 0 rfl) ?_
    refine lv_ldc2d hx hb hown (hts _ q3_219) dX6_isBeyond_9 ?_
    refine lv_dcmp hx hb dX6_isBeyond_12 ?_
    refine lv_if_ge (tgt := 20) hx hb dX6_isBeyond_13 (by decide) (fun c => ?_) (fun c => ?_)
    · replace hF := iT c hF
      refine lv_iconst (v := (0 : Int32)) hx hb dX6_isBeyond_20 (by decide) ?_
      have hq := Option.some.inj hF
      subst hq
      exact rt_z (v := (0 : Int32)) C X (by decide) dX6_isBeyond_21
    · replace hF := iF c hF
      refine lv_iconst (v := (1 : Int32)) hx hb dX6_isBeyond_16 (by decide) ?_
      refine lv_goto (tgt := 21) hx hb dX6_isBeyond_17 (by decide) ?_
      have hq := Option.some.inj hF
      subst hq
      exact rt_z (v := (1 : Int32)) C X (by decide) dX6_isBeyond_21

/-! ### X6_sizeOf -/
theorem dX6_sizeOf_0 : decode cX6_sizeOf 0 = .ok (.dload_n 0, 1) := by decide +kernel
theorem dX6_sizeOf_1 : decode cX6_sizeOf 1 = .ok (.dconst 0, 1) := by decide +kernel
theorem dX6_sizeOf_2 : decode cX6_sizeOf 2 = .ok (.dcmp .g, 1) := by decide +kernel
theorem dX6_sizeOf_3 : decode cX6_sizeOf 3 = .ok (.ifCond .gt 9, 3) := by decide +kernel
theorem dX6_sizeOf_6 : decode cX6_sizeOf 6 = .ok (.dconst 0, 1) := by decide +kernel
theorem dX6_sizeOf_7 : decode cX6_sizeOf 7 = .ok (.dload_n 0, 1) := by decide +kernel
theorem dX6_sizeOf_8 : decode cX6_sizeOf 8 = .ok (.dsub, 1) := by decide +kernel
theorem dX6_sizeOf_9 : decode cX6_sizeOf 9 = .ok (.goto 4, 3) := by decide +kernel
theorem dX6_sizeOf_12 : decode cX6_sizeOf 12 = .ok (.dload_n 0, 1) := by decide +kernel
theorem dX6_sizeOf_13 : decode cX6_sizeOf 13 = .ok (.dreturn, 1) := by decide +kernel
abbrev R_X6_sizeOf : Room := ({ frames := 0, cells := 0, slots := 0, locals := 0 } : Room)
def f_X6_sizeOf (x0 : UInt64) : Option (UInt64) :=
  if 0 < (Op.cmpValue (FP.dcmp x0 FP.dconst0) .g) then (some x0) else (grd (n64 (FP.dsub FP.dconst0 x0)) (some (FP.dsub FP.dconst0 x0)))
set_option maxHeartbeats 4000000 in
set_option maxRecDepth 100000 in
theorem c_X6_sizeOf (l : Launch) (D : Dx) (x0 : UInt64) (q : UInt64) (hF : f_X6_sizeOf x0 = some q) (sz : Nat) : Met l yX6_sizeOf (ws_ yX6_sizeOf cX6_sizeOf 2 (some .double)) R_X6_sizeOf (PC D ([]) [.double x0] ([]) sz) (QD D (va_A ([]) sz) ([]) q) 0 0 (va_A ([]) sz) := by
  refine Met.ofW (cc := cX6_sizeOf) (maxL := 2) (ret := (some .double)) (by decide) rfl ?_
  intro p e s m args below meth c s₁ B hml hv
  obtain ⟨rfl, hsz, hP, hK, hD, hN⟩ := hv
  subst hsz
  have C : Cx p s m _ meth c cX6_sizeOf (some .double) 2 RX6 lw_all := Cx_of B hml
  have X := Hx_start hP hK hD hN
  obtain ⟨hx, hb, hr, -, hown, hts, hlk⟩ := id C
  generalize va_A ([]) s.heap.size = A at X ⊢
  have hl := lv_entry ([.double x0]) (n := 2) (Nat.le_of_ble_eq_true rfl)
  rw [lg_entry_eq]
  generalize (lg_sl ([.double x0]) ++ List.replicate (2 - (lg_sl ([.double x0])).length) Slot.unset).toArray = ls at hl ⊢
  have hl : lv_has ls 2 [(0, .double x0)] := hl
  unfold f_X6_sizeOf at hF
  refine lv_dload_n hx hb dX6_sizeOf_0 rfl (lv_at hl 0 rfl) ?_
  refine lv_dconst0 hx hb dX6_sizeOf_1 ?_
  refine lv_dcmp hx hb dX6_sizeOf_2 ?_
  refine lv_if_gt (tgt := 12) hx hb dX6_sizeOf_3 (by decide) (fun c => ?_) (fun c => ?_)
  · replace hF := iT c hF
    refine lv_dload_n hx hb dX6_sizeOf_12 rfl (lv_at hl 0 rfl) ?_
    have hq := Option.some.inj hF
    subst hq
    exact rt_d C X dX6_sizeOf_13
  · replace hF := iF c hF
    refine lv_dconst0 hx hb dX6_sizeOf_6 ?_
    refine lv_dload_n hx hb dX6_sizeOf_7 rfl (lv_at hl 0 rfl) ?_
    obtain ⟨h_1, hF⟩ := grd_some hF
    refine lv_dsub hx hb dX6_sizeOf_8 (n64_ok h_1) ?_
    refine lv_goto (tgt := 13) hx hb dX6_sizeOf_9 (by decide) ?_
    have hq := Option.some.inj hF
    subst hq
    exact rt_d C X dX6_sizeOf_13

/-! ### X6_isNegative -/
theorem dX6_isNegative_0 : decode cX6_isNegative 0 = .ok (.dload_n 0, 1) := by decide +kernel
theorem dX6_isNegative_1 : decode cX6_isNegative 1 = .ok (.dconst 0, 1) := by decide +kernel
theorem dX6_isNegative_2 : decode cX6_isNegative 2 = .ok (.dcmp .g, 1) := by decide +kernel
theorem dX6_isNegative_3 : decode cX6_isNegative 3 = .ok (.ifCond .lt 17, 3) := by decide +kernel
theorem dX6_isNegative_6 : decode cX6_isNegative 6 = .ok (.dload_n 0, 1) := by decide +kernel
theorem dX6_isNegative_7 : decode cX6_isNegative 7 = .ok (.dconst 0, 1) := by decide +kernel
theorem dX6_isNegative_8 : decode cX6_isNegative 8 = .ok (.dcmp .l, 1) := by decide +kernel
theorem dX6_isNegative_9 : decode cX6_isNegative 9 = .ok (.ifCond .ne 15, 3) := by decide +kernel
theorem dX6_isNegative_12 : decode cX6_isNegative 12 = .ok (.dconst 1, 1) := by decide +kernel
theorem dX6_isNegative_13 : decode cX6_isNegative 13 = .ok (.dload_n 0, 1) := by decide +kernel
theorem dX6_isNegative_14 : decode cX6_isNegative 14 = .ok (.ddiv, 1) := by decide +kernel
theorem dX6_isNegative_15 : decode cX6_isNegative 15 = .ok (.dconst 0, 1) := by decide +kernel
theorem dX6_isNegative_16 : decode cX6_isNegative 16 = .ok (.dcmp .g, 1) := by decide +kernel
theorem dX6_isNegative_17 : decode cX6_isNegative 17 = .ok (.ifCond .ge 7, 3) := by decide +kernel
theorem dX6_isNegative_20 : decode cX6_isNegative 20 = .ok (.iconst 1, 1) := by decide +kernel
theorem dX6_isNegative_21 : decode cX6_isNegative 21 = .ok (.goto 4, 3) := by decide +kernel
theorem dX6_isNegative_24 : decode cX6_isNegative 24 = .ok (.iconst 0, 1) := by decide +kernel
theorem dX6_isNegative_25 : decode cX6_isNegative 25 = .ok (.ireturn, 1) := by decide +kernel
abbrev R_X6_isNegative : Room := ({ frames := 0, cells := 0, slots := 0, locals := 0 } : Room)
def f_X6_isNegative (x0 : UInt64) : Option (Int32) :=
  if (Op.cmpValue (FP.dcmp x0 FP.dconst0) .g) < 0 then (some (1 : Int32)) else (if (Op.cmpValue (FP.dcmp x0 FP.dconst0) .l) = 0 then (grd (n64 (FP.ddiv FP.dconst1 x0)) (if 0 ≤ (Op.cmpValue (FP.dcmp (FP.ddiv FP.dconst1 x0) FP.dconst0) .g) then (some (0 : Int32)) else (some (1 : Int32)))) else (some (0 : Int32)))
set_option maxHeartbeats 4000000 in
set_option maxRecDepth 100000 in
theorem c_X6_isNegative (l : Launch) (D : Dx) (x0 : UInt64) (q : Int32) (hF : f_X6_isNegative x0 = some q) (sz : Nat) : Met l yX6_isNegative (ws_ yX6_isNegative cX6_isNegative 2 (some .boolean)) R_X6_isNegative (PC D ([]) [.double x0] ([]) sz) (QI D (va_A ([]) sz) ([]) q) 0 0 (va_A ([]) sz) := by
  refine Met.ofW (cc := cX6_isNegative) (maxL := 2) (ret := (some .boolean)) (by decide) rfl ?_
  intro p e s m args below meth c s₁ B hml hv
  obtain ⟨rfl, hsz, hP, hK, hD, hN⟩ := hv
  subst hsz
  have C : Cx p s m _ meth c cX6_isNegative (some .boolean) 2 RX6 lw_all := Cx_of B hml
  have X := Hx_start hP hK hD hN
  obtain ⟨hx, hb, hr, -, hown, hts, hlk⟩ := id C
  generalize va_A ([]) s.heap.size = A at X ⊢
  have hl := lv_entry ([.double x0]) (n := 2) (Nat.le_of_ble_eq_true rfl)
  rw [lg_entry_eq]
  generalize (lg_sl ([.double x0]) ++ List.replicate (2 - (lg_sl ([.double x0])).length) Slot.unset).toArray = ls at hl ⊢
  have hl : lv_has ls 2 [(0, .double x0)] := hl
  unfold f_X6_isNegative at hF
  refine lv_dload_n hx hb dX6_isNegative_0 rfl (lv_at hl 0 rfl) ?_
  refine lv_dconst0 hx hb dX6_isNegative_1 ?_
  refine lv_dcmp hx hb dX6_isNegative_2 ?_
  refine lv_if_lt (tgt := 20) hx hb dX6_isNegative_3 (by decide) (fun c => ?_) (fun c => ?_)
  · replace hF := iT c hF
    refine lv_iconst (v := (1 : Int32)) hx hb dX6_isNegative_20 (by decide) ?_
    refine lv_goto (tgt := 25) hx hb dX6_isNegative_21 (by decide) ?_
    have hq := Option.some.inj hF
    subst hq
    exact rt_z (v := (1 : Int32)) C X (by decide) dX6_isNegative_25
  · replace hF := iF c hF
    refine lv_dload_n hx hb dX6_isNegative_6 rfl (lv_at hl 0 rfl) ?_
    refine lv_dconst0 hx hb dX6_isNegative_7 ?_
    refine lv_dcmp hx hb dX6_isNegative_8 ?_
    refine lv_if_ne (tgt := 24) hx hb dX6_isNegative_9 (by decide) (fun c => ?_) (fun c => ?_)
    · replace hF := iF c hF
      refine lv_iconst (v := (0 : Int32)) hx hb dX6_isNegative_24 (by decide) ?_
      have hq := Option.some.inj hF
      subst hq
      exact rt_z (v := (0 : Int32)) C X (by decide) dX6_isNegative_25
    · replace hF := iT c hF
      refine lv_dconst1 hx hb dX6_isNegative_12 ?_
      refine lv_dload_n hx hb dX6_isNegative_13 rfl (lv_at hl 0 rfl) ?_
      obtain ⟨h_1, hF⟩ := grd_some hF
      refine lv_ddiv hx hb dX6_isNegative_14 (n64_ok h_1) ?_
      refine lv_dconst0 hx hb dX6_isNegative_15 ?_
      refine lv_dcmp hx hb dX6_isNegative_16 ?_
      refine lv_if_ge (tgt := 24) hx hb dX6_isNegative_17 (by decide) (fun c => ?_) (fun c => ?_)
      · replace hF := iT c hF
        refine lv_iconst (v := (0 : Int32)) hx hb dX6_isNegative_24 (by decide) ?_
        have hq := Option.some.inj hF
        subst hq
        exact rt_z (v := (0 : Int32)) C X (by decide) dX6_isNegative_25
      · replace hF := iF c hF
        refine lv_iconst (v := (1 : Int32)) hx hb dX6_isNegative_20 (by decide) ?_
        refine lv_goto (tgt := 25) hx hb dX6_isNegative_21 (by decide) ?_
        have hq := Option.some.inj hF
        subst hq
        exact rt_z (v := (1 : Int32)) C X (by decide) dX6_isNegative_25

/-! ### X6_floorOf -/
theorem dX6_floorOf_0 : decode cX6_floorOf 0 = .ok (.dload_n 0, 1) := by decide +kernel
theorem dX6_floorOf_1 : decode cX6_floorOf 1 = .ok (.invokestatic 27, 3) := by decide +kernel
theorem dX6_floorOf_4 : decode cX6_floorOf 4 = .ok (.ldc2_w 31, 3) := by decide +kernel
theorem dX6_floorOf_7 : decode cX6_floorOf 7 = .ok (.dcmp .l, 1) := by decide +kernel
theorem dX6_floorOf_8 : decode cX6_floorOf 8 = .ok (.ifCond .ge 9, 3) := by decide +kernel
theorem dX6_floorOf_11 : decode cX6_floorOf 11 = .ok (.dload_n 0, 1) := by decide +kernel
theorem dX6_floorOf_12 : decode cX6_floorOf 12 = .ok (.dconst 0, 1) := by decide +kernel
theorem dX6_floorOf_13 : decode cX6_floorOf 13 = .ok (.dcmp .l, 1) := by decide +kernel
theorem dX6_floorOf_14 : decode cX6_floorOf 14 = .ok (.ifCond .ne 5, 3) := by decide +kernel
theorem dX6_floorOf_17 : decode cX6_floorOf 17 = .ok (.dload_n 0, 1) := by decide +kernel
theorem dX6_floorOf_18 : decode cX6_floorOf 18 = .ok (.dreturn, 1) := by decide +kernel
theorem dX6_floorOf_19 : decode cX6_floorOf 19 = .ok (.dload_n 0, 1) := by decide +kernel
theorem dX6_floorOf_20 : decode cX6_floorOf 20 = .ok (.d2l, 1) := by decide +kernel
theorem dX6_floorOf_21 : decode cX6_floorOf 21 = .ok (.l2d, 1) := by decide +kernel
theorem dX6_floorOf_22 : decode cX6_floorOf 22 = .ok (.dstore_n 2, 1) := by decide +kernel
theorem dX6_floorOf_23 : decode cX6_floorOf 23 = .ok (.dload_n 2, 1) := by decide +kernel
theorem dX6_floorOf_24 : decode cX6_floorOf 24 = .ok (.dload_n 0, 1) := by decide +kernel
theorem dX6_floorOf_25 : decode cX6_floorOf 25 = .ok (.dcmp .l, 1) := by decide +kernel
theorem dX6_floorOf_26 : decode cX6_floorOf 26 = .ok (.ifCond .le 9, 3) := by decide +kernel
theorem dX6_floorOf_29 : decode cX6_floorOf 29 = .ok (.dload_n 2, 1) := by decide +kernel
theorem dX6_floorOf_30 : decode cX6_floorOf 30 = .ok (.dconst 1, 1) := by decide +kernel
theorem dX6_floorOf_31 : decode cX6_floorOf 31 = .ok (.dsub, 1) := by decide +kernel
theorem dX6_floorOf_32 : decode cX6_floorOf 32 = .ok (.goto 4, 3) := by decide +kernel
theorem dX6_floorOf_35 : decode cX6_floorOf 35 = .ok (.dload_n 2, 1) := by decide +kernel
theorem dX6_floorOf_36 : decode cX6_floorOf 36 = .ok (.dreturn, 1) := by decide +kernel
abbrev R_X6_floorOf : Room := ({ frames := 1, cells := 0, slots := 0, locals := 21 } : Room)
def f_X6_floorOf (x0 : UInt64) : Option (UInt64) :=
  bnd (f_X6_sizeOf x0) (fun q_1 => if 0 ≤ (Op.cmpValue (FP.dcmp q_1 (4841369599423283200 : UInt64)) .l) then (some x0) else (if (Op.cmpValue (FP.dcmp x0 FP.dconst0) .l) = 0 then (some x0) else (if (Op.cmpValue (FP.dcmp (FP.l2d (FP.d2l x0)) x0) .l) ≤ 0 then (some (FP.l2d (FP.d2l x0))) else (grd (n64 (FP.dsub (FP.l2d (FP.d2l x0)) FP.dconst1)) (some (FP.dsub (FP.l2d (FP.d2l x0)) FP.dconst1))))))
set_option maxHeartbeats 4000000 in
set_option maxRecDepth 100000 in
theorem c_X6_floorOf (l : Launch) (D : Dx) (x0 : UInt64) (q : UInt64) (hF : f_X6_floorOf x0 = some q) (sz : Nat) : Met l yX6_floorOf (ws_ yX6_floorOf cX6_floorOf 4 (some .double)) R_X6_floorOf (PC D ([]) [.double x0] ([]) sz) (QD D (va_A ([]) sz) ([]) q) 0 0 (va_A ([]) sz) := by
  refine Met.ofW (cc := cX6_floorOf) (maxL := 4) (ret := (some .double)) (by decide) rfl ?_
  intro p e s m args below meth c s₁ B hml hv
  obtain ⟨rfl, hsz, hP, hK, hD, hN⟩ := hv
  subst hsz
  have C : Cx p s m _ meth c cX6_floorOf (some .double) 4 RX6 lw_all := Cx_of B hml
  have X := Hx_start hP hK hD hN
  obtain ⟨hx, hb, hr, -, hown, hts, hlk⟩ := id C
  generalize va_A ([]) s.heap.size = A at X ⊢
  have hl := lv_entry ([.double x0]) (n := 4) (Nat.le_of_ble_eq_true rfl)
  rw [lg_entry_eq]
  generalize (lg_sl ([.double x0]) ++ List.replicate (4 - (lg_sl ([.double x0])).length) Slot.unset).toArray = ls at hl ⊢
  have hl : lv_has ls 4 [(0, .double x0)] := hl
  unfold f_X6_floorOf at hF
  refine lv_dload_n hx hb dX6_floorOf_0 rfl (lv_at hl 0 rfl) ?_
  obtain ⟨q_1, hc_2, hF⟩ := bnd_some hF
  refine cS_d (As := [.double x0]) (rest := []) C X (c_X6_sizeOf l D  x0 q_1 hc_2 _) (va_cwS 1 hts (good_S q5_70 q5_71 q1_2 q5_72) rfl rfl rfl (by decide +kernel) ⟨Nat.le_of_ble_eq_true rfl, Nat.le_of_ble_eq_true rfl⟩) (eK X) eP (eD (A := A)) (eF X) hl.1 rfl rfl (Nat.le_of_ble_eq_true rfl) dX6_floorOf_1 ⟨Nat.le_of_ble_eq_true rfl, Nat.le_of_ble_eq_true rfl⟩ (fun t H1 locs1 ht hB hk hS => ?_)
  have X := Hx_after_none X hk hS
  clear hk hS ht hB
  generalize H1 = H at X ⊢
  generalize locs1 = locs at X ⊢
  refine lv_ldc2d hx hb hown (hts _ q5_73) dX6_floorOf_4 ?_
  refine lv_dcmp hx hb dX6_floorOf_7 ?_
  refine lv_if_ge (tgt := 17) hx hb dX6_floorOf_8 (by decide) (fun c => ?_) (fun c => ?_)
  · replace hF := iT c hF
    refine lv_dload_n hx hb dX6_floorOf_17 rfl (lv_at hl 0 rfl) ?_
    have hq := Option.some.inj hF
    subst hq
    exact rt_d C X dX6_floorOf_18
  · replace hF := iF c hF
    refine lv_dload_n hx hb dX6_floorOf_11 rfl (lv_at hl 0 rfl) ?_
    refine lv_dconst0 hx hb dX6_floorOf_12 ?_
    refine lv_dcmp hx hb dX6_floorOf_13 ?_
    refine lv_if_ne (tgt := 19) hx hb dX6_floorOf_14 (by decide) (fun c => ?_) (fun c => ?_)
    · replace hF := iF c hF
      refine lv_dload_n hx hb dX6_floorOf_19 rfl (lv_at hl 0 rfl) ?_
      refine lv_d2l hx hb dX6_floorOf_20 ?_
      refine lv_l2d hx hb dX6_floorOf_21 ?_
      refine lv_dstore_n (lv' := [(2, .double (FP.l2d (FP.d2l x0))), (0, .double x0)]) hx hb dX6_floorOf_22 rfl hl (by decide) rfl (fun ls hl => ?_)
      refine lv_dload_n hx hb dX6_floorOf_23 rfl (lv_at hl 0 rfl) ?_
      refine lv_dload_n hx hb dX6_floorOf_24 rfl (lv_at hl 1 rfl) ?_
      refine lv_dcmp hx hb dX6_floorOf_25 ?_
      refine lv_if_le (tgt := 35) hx hb dX6_floorOf_26 (by decide) (fun c => ?_) (fun c => ?_)
      · replace hF := iT c hF
        refine lv_dload_n hx hb dX6_floorOf_35 rfl (lv_at hl 0 rfl) ?_
        have hq := Option.some.inj hF
        subst hq
        exact rt_d C X dX6_floorOf_36
      · replace hF := iF c hF
        refine lv_dload_n hx hb dX6_floorOf_29 rfl (lv_at hl 0 rfl) ?_
        refine lv_dconst1 hx hb dX6_floorOf_30 ?_
        obtain ⟨h_3, hF⟩ := grd_some hF
        refine lv_dsub hx hb dX6_floorOf_31 (n64_ok h_3) ?_
        refine lv_goto (tgt := 36) hx hb dX6_floorOf_32 (by decide) ?_
        have hq := Option.some.inj hF
        subst hq
        exact rt_d C X dX6_floorOf_36
    · replace hF := iT c hF
      refine lv_dload_n hx hb dX6_floorOf_17 rfl (lv_at hl 0 rfl) ?_
      have hq := Option.some.inj hF
      subst hq
      exact rt_d C X dX6_floorOf_18

/-! ### X6_ceilOf -/
theorem dX6_ceilOf_0 : decode cX6_ceilOf 0 = .ok (.dload_n 0, 1) := by decide +kernel
theorem dX6_ceilOf_1 : decode cX6_ceilOf 1 = .ok (.dneg, 1) := by decide +kernel
theorem dX6_ceilOf_2 : decode cX6_ceilOf 2 = .ok (.invokestatic 33, 3) := by decide +kernel
theorem dX6_ceilOf_5 : decode cX6_ceilOf 5 = .ok (.dneg, 1) := by decide +kernel
theorem dX6_ceilOf_6 : decode cX6_ceilOf 6 = .ok (.dreturn, 1) := by decide +kernel
abbrev R_X6_ceilOf : Room := ({ frames := 2, cells := 0, slots := 0, locals := 44 } : Room)
def f_X6_ceilOf (x0 : UInt64) : Option (UInt64) :=
  bnd (f_X6_floorOf (FP.dneg x0)) (fun q_1 => some (FP.dneg q_1))
set_option maxHeartbeats 4000000 in
set_option maxRecDepth 100000 in
theorem c_X6_ceilOf (l : Launch) (D : Dx) (x0 : UInt64) (q : UInt64) (hF : f_X6_ceilOf x0 = some q) (sz : Nat) : Met l yX6_ceilOf (ws_ yX6_ceilOf cX6_ceilOf 2 (some .double)) R_X6_ceilOf (PC D ([]) [.double x0] ([]) sz) (QD D (va_A ([]) sz) ([]) q) 0 0 (va_A ([]) sz) := by
  refine Met.ofW (cc := cX6_ceilOf) (maxL := 2) (ret := (some .double)) (by decide) rfl ?_
  intro p e s m args below meth c s₁ B hml hv
  obtain ⟨rfl, hsz, hP, hK, hD, hN⟩ := hv
  subst hsz
  have C : Cx p s m _ meth c cX6_ceilOf (some .double) 2 RX6 lw_all := Cx_of B hml
  have X := Hx_start hP hK hD hN
  obtain ⟨hx, hb, hr, -, hown, hts, hlk⟩ := id C
  generalize va_A ([]) s.heap.size = A at X ⊢
  have hl := lv_entry ([.double x0]) (n := 2) (Nat.le_of_ble_eq_true rfl)
  rw [lg_entry_eq]
  generalize (lg_sl ([.double x0]) ++ List.replicate (2 - (lg_sl ([.double x0])).length) Slot.unset).toArray = ls at hl ⊢
  have hl : lv_has ls 2 [(0, .double x0)] := hl
  unfold f_X6_ceilOf at hF
  refine lv_dload_n hx hb dX6_ceilOf_0 rfl (lv_at hl 0 rfl) ?_
  refine lv_dneg hx hb dX6_ceilOf_1 ?_
  obtain ⟨q_1, hc_2, hF⟩ := bnd_some hF
  refine cS_d (As := [.double (FP.dneg x0)]) (rest := []) C X (c_X6_floorOf l D  (FP.dneg x0) q_1 hc_2 _) (va_cwS 1 hts (good_S q5_77 q5_68 q1_2 q5_69) rfl rfl rfl (by decide +kernel) ⟨Nat.le_of_ble_eq_true rfl, Nat.le_of_ble_eq_true rfl⟩) (eK X) eP (eD (A := A)) (eF X) hl.1 rfl rfl (Nat.le_of_ble_eq_true rfl) dX6_ceilOf_2 ⟨Nat.le_of_ble_eq_true rfl, Nat.le_of_ble_eq_true rfl⟩ (fun t H1 locs1 ht hB hk hS => ?_)
  have X := Hx_after_none X hk hS
  clear hk hS ht hB
  generalize H1 = H at X ⊢
  generalize locs1 = locs at X ⊢
  refine lv_dneg hx hb dX6_ceilOf_5 ?_
  have hq := Option.some.inj hF
  subst hq
  exact rt_d C X dX6_ceilOf_6

/-! ### X6_rintOf -/
theorem dX6_rintOf_0 : decode cX6_rintOf 0 = .ok (.dload_n 0, 1) := by decide +kernel
theorem dX6_rintOf_1 : decode cX6_rintOf 1 = .ok (.invokestatic 27, 3) := by decide +kernel
theorem dX6_rintOf_4 : decode cX6_rintOf 4 = .ok (.dstore_n 2, 1) := by decide +kernel
theorem dX6_rintOf_5 : decode cX6_rintOf 5 = .ok (.dload_n 2, 1) := by decide +kernel
theorem dX6_rintOf_6 : decode cX6_rintOf 6 = .ok (.ldc2_w 31, 3) := by decide +kernel
theorem dX6_rintOf_9 : decode cX6_rintOf 9 = .ok (.dcmp .l, 1) := by decide +kernel
theorem dX6_rintOf_10 : decode cX6_rintOf 10 = .ok (.ifCond .lt 5, 3) := by decide +kernel
theorem dX6_rintOf_13 : decode cX6_rintOf 13 = .ok (.dload_n 0, 1) := by decide +kernel
theorem dX6_rintOf_14 : decode cX6_rintOf 14 = .ok (.dreturn, 1) := by decide +kernel
theorem dX6_rintOf_15 : decode cX6_rintOf 15 = .ok (.dload_n 2, 1) := by decide +kernel
theorem dX6_rintOf_16 : decode cX6_rintOf 16 = .ok (.d2l, 1) := by decide +kernel
theorem dX6_rintOf_17 : decode cX6_rintOf 17 = .ok (.lstore 4, 2) := by decide +kernel
theorem dX6_rintOf_19 : decode cX6_rintOf 19 = .ok (.dload_n 2, 1) := by decide +kernel
theorem dX6_rintOf_20 : decode cX6_rintOf 20 = .ok (.lload 4, 2) := by decide +kernel
theorem dX6_rintOf_22 : decode cX6_rintOf 22 = .ok (.l2d, 1) := by decide +kernel
theorem dX6_rintOf_23 : decode cX6_rintOf 23 = .ok (.dsub, 1) := by decide +kernel
theorem dX6_rintOf_24 : decode cX6_rintOf 24 = .ok (.dstore 6, 2) := by decide +kernel
theorem dX6_rintOf_26 : decode cX6_rintOf 26 = .ok (.dload 6, 2) := by decide +kernel
theorem dX6_rintOf_28 : decode cX6_rintOf 28 = .ok (.ldc2_w 17, 3) := by decide +kernel
theorem dX6_rintOf_31 : decode cX6_rintOf 31 = .ok (.dcmp .l, 1) := by decide +kernel
theorem dX6_rintOf_32 : decode cX6_rintOf 32 = .ok (.ifCond .gt 21, 3) := by decide +kernel
theorem dX6_rintOf_35 : decode cX6_rintOf 35 = .ok (.dload 6, 2) := by decide +kernel
theorem dX6_rintOf_37 : decode cX6_rintOf 37 = .ok (.ldc2_w 17, 3) := by decide +kernel
theorem dX6_rintOf_40 : decode cX6_rintOf 40 = .ok (.dcmp .l, 1) := by decide +kernel
theorem dX6_rintOf_41 : decode cX6_rintOf 41 = .ok (.ifCond .ne 16, 3) := by decide +kernel
theorem dX6_rintOf_44 : decode cX6_rintOf 44 = .ok (.lload 4, 2) := by decide +kernel
theorem dX6_rintOf_46 : decode cX6_rintOf 46 = .ok (.lconst 1, 1) := by decide +kernel
theorem dX6_rintOf_47 : decode cX6_rintOf 47 = .ok (.land, 1) := by decide +kernel
theorem dX6_rintOf_48 : decode cX6_rintOf 48 = .ok (.lconst 0, 1) := by decide +kernel
theorem dX6_rintOf_49 : decode cX6_rintOf 49 = .ok (.lcmp, 1) := by decide +kernel
theorem dX6_rintOf_50 : decode cX6_rintOf 50 = .ok (.ifCond .eq 7, 3) := by decide +kernel
theorem dX6_rintOf_53 : decode cX6_rintOf 53 = .ok (.iconst 1, 1) := by decide +kernel
theorem dX6_rintOf_54 : decode cX6_rintOf 54 = .ok (.goto 4, 3) := by decide +kernel
theorem dX6_rintOf_57 : decode cX6_rintOf 57 = .ok (.iconst 0, 1) := by decide +kernel
theorem dX6_rintOf_58 : decode cX6_rintOf 58 = .ok (.istore 8, 2) := by decide +kernel
theorem dX6_rintOf_60 : decode cX6_rintOf 60 = .ok (.iload 8, 2) := by decide +kernel
theorem dX6_rintOf_62 : decode cX6_rintOf 62 = .ok (.ifCond .eq 10, 3) := by decide +kernel
theorem dX6_rintOf_65 : decode cX6_rintOf 65 = .ok (.lload 4, 2) := by decide +kernel
theorem dX6_rintOf_67 : decode cX6_rintOf 67 = .ok (.lconst 1, 1) := by decide +kernel
theorem dX6_rintOf_68 : decode cX6_rintOf 68 = .ok (.ladd, 1) := by decide +kernel
theorem dX6_rintOf_69 : decode cX6_rintOf 69 = .ok (.goto 5, 3) := by decide +kernel
theorem dX6_rintOf_72 : decode cX6_rintOf 72 = .ok (.lload 4, 2) := by decide +kernel
theorem dX6_rintOf_74 : decode cX6_rintOf 74 = .ok (.l2d, 1) := by decide +kernel
theorem dX6_rintOf_75 : decode cX6_rintOf 75 = .ok (.dstore 9, 2) := by decide +kernel
theorem dX6_rintOf_77 : decode cX6_rintOf 77 = .ok (.dload_n 0, 1) := by decide +kernel
theorem dX6_rintOf_78 : decode cX6_rintOf 78 = .ok (.invokestatic 36, 3) := by decide +kernel
theorem dX6_rintOf_81 : decode cX6_rintOf 81 = .ok (.ifCond .eq 9, 3) := by decide +kernel
theorem dX6_rintOf_84 : decode cX6_rintOf 84 = .ok (.dload 9, 2) := by decide +kernel
theorem dX6_rintOf_86 : decode cX6_rintOf 86 = .ok (.dneg, 1) := by decide +kernel
theorem dX6_rintOf_87 : decode cX6_rintOf 87 = .ok (.goto 5, 3) := by decide +kernel
theorem dX6_rintOf_90 : decode cX6_rintOf 90 = .ok (.dload 9, 2) := by decide +kernel
theorem dX6_rintOf_92 : decode cX6_rintOf 92 = .ok (.dreturn, 1) := by decide +kernel
abbrev R_X6_rintOf : Room := ({ frames := 1, cells := 0, slots := 0, locals := 21 } : Room)
def b_X6_rintOf_74 (v0 : UInt64) (s0 : Int64) : Option (UInt64) :=
  bnd (f_X6_isNegative v0) (fun q_4 => if q_4 = 0 then (some (FP.l2d s0)) else (some (FP.dneg (FP.l2d s0))))
def b_X6_rintOf_58 (v0 : UInt64) (v4 : Int64) (s0 : Int32) : Option (UInt64) :=
  if s0 = 0 then (b_X6_rintOf_74 v0 v4) else (b_X6_rintOf_74 v0 (v4 + (1 : Int64)))
def b_X6_rintOf_53 (v0 : UInt64) (v4 : Int64) : Option (UInt64) :=
  b_X6_rintOf_58 v0 v4 (1 : Int32)
def b_X6_rintOf_57 (v0 : UInt64) (v4 : Int64) : Option (UInt64) :=
  b_X6_rintOf_58 v0 v4 (0 : Int32)
def f_X6_rintOf (x0 : UInt64) : Option (UInt64) :=
  bnd (f_X6_sizeOf x0) (fun q_1 => if (Op.cmpValue (FP.dcmp q_1 (4841369599423283200 : UInt64)) .l) < 0 then (grd (n64 (FP.dsub q_1 (FP.l2d (FP.d2l q_1)))) (if 0 < (Op.cmpValue (FP.dcmp (FP.dsub q_1 (FP.l2d (FP.d2l q_1))) (4602678819172646912 : UInt64)) .l) then (b_X6_rintOf_53 x0 (FP.d2l q_1)) else (if (Op.cmpValue (FP.dcmp (FP.dsub q_1 (FP.l2d (FP.d2l q_1))) (4602678819172646912 : UInt64)) .l) = 0 then (if ((FP.d2l q_1) &&& (1 : Int64)) = (0 : Int64) then (b_X6_rintOf_57 x0 (FP.d2l q_1)) else (b_X6_rintOf_53 x0 (FP.d2l q_1))) else (b_X6_rintOf_57 x0 (FP.d2l q_1))))) else (some x0))
def S_X6_rintOf_74 (l : Launch) (D : Dx) (fn : UInt64 → Int64 → Option (UInt64)) : Prop :=
  ∀ {p : Program} {e : Env} {s : State} {m : MethodId} {args : Array Value} {below : List Frame} {meth : Method} {c : Code} {H : Heap} {locs : List Loc} {A : Nat → Prop} {ls : Array Slot} {v0 : UInt64} {s0 : Int64} {q : UInt64}, Cx p s m args meth c cX6_rintOf (some .double) 11 RX6 lw_all → Hx D ([]) A s H locs ([]) → lv_has ls 11 [(0, .double v0)] → fn v0 s0 = some q → W p l e R_X6_rintOf s m args below meth c H locs 0 0 (MQ below (QD D A ([]) q) args s 0 0 A) (F0 m 74 ls [.long s0])
def S_X6_rintOf_58 (l : Launch) (D : Dx) (fn : UInt64 → Int64 → Int32 → Option (UInt64)) : Prop :=
  ∀ {p : Program} {e : Env} {s : State} {m : MethodId} {args : Array Value} {below : List Frame} {meth : Method} {c : Code} {H : Heap} {locs : List Loc} {A : Nat → Prop} {ls : Array Slot} {v0 : UInt64} {v4 : Int64} {s0 : Int32} {q : UInt64}, Cx p s m args meth c cX6_rintOf (some .double) 11 RX6 lw_all → Hx D ([]) A s H locs ([]) → lv_has ls 11 [(0, .double v0), (4, .long v4)] → fn v0 v4 s0 = some q → W p l e R_X6_rintOf s m args below meth c H locs 0 0 (MQ below (QD D A ([]) q) args s 0 0 A) (F0 m 58 ls [.int s0])
def S_X6_rintOf_53 (l : Launch) (D : Dx) (fn : UInt64 → Int64 → Option (UInt64)) : Prop :=
  ∀ {p : Program} {e : Env} {s : State} {m : MethodId} {args : Array Value} {below : List Frame} {meth : Method} {c : Code} {H : Heap} {locs : List Loc} {A : Nat → Prop} {ls : Array Slot} {v0 : UInt64} {v4 : Int64} {q : UInt64}, Cx p s m args meth c cX6_rintOf (some .double) 11 RX6 lw_all → Hx D ([]) A s H locs ([]) → lv_has ls 11 [(0, .double v0), (4, .long v4)] → fn v0 v4 = some q → W p l e R_X6_rintOf s m args below meth c H locs 0 0 (MQ below (QD D A ([]) q) args s 0 0 A) (F0 m 53 ls [])
def S_X6_rintOf_57 (l : Launch) (D : Dx) (fn : UInt64 → Int64 → Option (UInt64)) : Prop :=
  ∀ {p : Program} {e : Env} {s : State} {m : MethodId} {args : Array Value} {below : List Frame} {meth : Method} {c : Code} {H : Heap} {locs : List Loc} {A : Nat → Prop} {ls : Array Slot} {v0 : UInt64} {v4 : Int64} {q : UInt64}, Cx p s m args meth c cX6_rintOf (some .double) 11 RX6 lw_all → Hx D ([]) A s H locs ([]) → lv_has ls 11 [(0, .double v0), (4, .long v4)] → fn v0 v4 = some q → W p l e R_X6_rintOf s m args below meth c H locs 0 0 (MQ below (QD D A ([]) q) args s 0 0 A) (F0 m 57 ls [])
set_option maxHeartbeats 4000000 in
set_option maxRecDepth 100000 in
theorem k_X6_rintOf_74 (l : Launch) (D : Dx) : S_X6_rintOf_74 l D (b_X6_rintOf_74) := by
  intro p e s m args below meth c H locs A ls v0 s0 q C X hl hF
  obtain ⟨hx, hb, hr, hml, hown, hts, hlk⟩ := id C
  unfold b_X6_rintOf_74 at hF
  refine lv_l2d hx hb dX6_rintOf_74 ?_
  refine lv_dstore (lv' := [(9, .double (FP.l2d s0)), (0, .double v0)]) hx hb dX6_rintOf_75 hl (by decide) rfl (fun ls hl => ?_)
  refine lv_dload_n hx hb dX6_rintOf_77 rfl (lv_at hl 1 rfl) ?_
  obtain ⟨q_4, hc_5, hF⟩ := bnd_some hF
  refine cS_i (As := [.double v0]) (rest := []) C X (c_X6_isNegative l D  v0 q_4 hc_5 _) (va_cwS 1 hts (good_S q5_81 q5_82 q1_2 q5_83) rfl rfl rfl (by decide +kernel) ⟨Nat.le_of_ble_eq_true rfl, Nat.le_of_ble_eq_true rfl⟩) (eK X) eP (eD (A := A)) (eF X) hl.1 rfl rfl (Nat.le_of_ble_eq_true rfl) dX6_rintOf_78 ⟨Nat.le_of_ble_eq_true rfl, Nat.le_of_ble_eq_true rfl⟩ (fun t H1 locs1 ht hB hk hS => ?_)
  have X := Hx_after_none X hk hS
  clear hk hS ht hB
  generalize H1 = H at X ⊢
  generalize locs1 = locs at X ⊢
  refine lv_if_eq (tgt := 90) hx hb dX6_rintOf_81 (by decide) (fun c => ?_) (fun c => ?_)
  · replace hF := iT c hF
    refine lv_dload hx hb dX6_rintOf_90 (lv_at hl 0 rfl) ?_
    have hq := Option.some.inj hF
    subst hq
    exact rt_d C X dX6_rintOf_92
  · replace hF := iF c hF
    refine lv_dload hx hb dX6_rintOf_84 (lv_at hl 0 rfl) ?_
    refine lv_dneg hx hb dX6_rintOf_86 ?_
    refine lv_goto (tgt := 92) hx hb dX6_rintOf_87 (by decide) ?_
    have hq := Option.some.inj hF
    subst hq
    exact rt_d C X dX6_rintOf_92
set_option maxHeartbeats 4000000 in
set_option maxRecDepth 100000 in
theorem k_X6_rintOf_58 (l : Launch) (D : Dx) : S_X6_rintOf_58 l D (b_X6_rintOf_58) := by
  intro p e s m args below meth c H locs A ls v0 v4 s0 q C X hl hF
  obtain ⟨hx, hb, hr, hml, hown, hts, hlk⟩ := id C
  unfold b_X6_rintOf_58 at hF
  refine lv_istore (lv' := [(8, .int s0), (0, .double v0), (4, .long v4)]) hx hb dX6_rintOf_58 hl (by decide) rfl (fun ls hl => ?_)
  refine lv_iload hx hb dX6_rintOf_60 (lv_at hl 0 rfl) ?_
  refine lv_if_eq (tgt := 72) hx hb dX6_rintOf_62 (by decide) (fun c => ?_) (fun c => ?_)
  · replace hF := iT c hF
    refine lv_lload hx hb dX6_rintOf_72 (lv_at hl 2 rfl) ?_
    exact (k_X6_rintOf_74 l D ) C X (lv_sub hl [1] rfl) hF
  · replace hF := iF c hF
    refine lv_lload hx hb dX6_rintOf_65 (lv_at hl 2 rfl) ?_
    refine lv_lconst (v := (1 : Int64)) hx hb dX6_rintOf_67 (by decide) ?_
    refine lv_ladd hx hb dX6_rintOf_68 ?_
    refine lv_goto (tgt := 74) hx hb dX6_rintOf_69 (by decide) ?_
    exact (k_X6_rintOf_74 l D ) C X (lv_sub hl [1] rfl) hF
set_option maxHeartbeats 4000000 in
set_option maxRecDepth 100000 in
theorem k_X6_rintOf_53 (l : Launch) (D : Dx) : S_X6_rintOf_53 l D (b_X6_rintOf_53) := by
  intro p e s m args below meth c H locs A ls v0 v4 q C X hl hF
  obtain ⟨hx, hb, hr, hml, hown, hts, hlk⟩ := id C
  unfold b_X6_rintOf_53 at hF
  refine lv_iconst (v := (1 : Int32)) hx hb dX6_rintOf_53 (by decide) ?_
  refine lv_goto (tgt := 58) hx hb dX6_rintOf_54 (by decide) ?_
  exact (k_X6_rintOf_58 l D ) C X (lv_sub hl [0, 1] rfl) hF
set_option maxHeartbeats 4000000 in
set_option maxRecDepth 100000 in
theorem k_X6_rintOf_57 (l : Launch) (D : Dx) : S_X6_rintOf_57 l D (b_X6_rintOf_57) := by
  intro p e s m args below meth c H locs A ls v0 v4 q C X hl hF
  obtain ⟨hx, hb, hr, hml, hown, hts, hlk⟩ := id C
  unfold b_X6_rintOf_57 at hF
  refine lv_iconst (v := (0 : Int32)) hx hb dX6_rintOf_57 (by decide) ?_
  exact (k_X6_rintOf_58 l D ) C X (lv_sub hl [0, 1] rfl) hF
set_option maxHeartbeats 4000000 in
set_option maxRecDepth 100000 in
theorem c_X6_rintOf (l : Launch) (D : Dx) (x0 : UInt64) (q : UInt64) (hF : f_X6_rintOf x0 = some q) (sz : Nat) : Met l yX6_rintOf (ws_ yX6_rintOf cX6_rintOf 11 (some .double)) R_X6_rintOf (PC D ([]) [.double x0] ([]) sz) (QD D (va_A ([]) sz) ([]) q) 0 0 (va_A ([]) sz) := by
  refine Met.ofW (cc := cX6_rintOf) (maxL := 11) (ret := (some .double)) (by decide) rfl ?_
  intro p e s m args below meth c s₁ B hml hv
  obtain ⟨rfl, hsz, hP, hK, hD, hN⟩ := hv
  subst hsz
  have C : Cx p s m _ meth c cX6_rintOf (some .double) 11 RX6 lw_all := Cx_of B hml
  have X := Hx_start hP hK hD hN
  obtain ⟨hx, hb, hr, -, hown, hts, hlk⟩ := id C
  generalize va_A ([]) s.heap.size = A at X ⊢
  have hl := lv_entry ([.double x0]) (n := 11) (Nat.le_of_ble_eq_true rfl)
  rw [lg_entry_eq]
  generalize (lg_sl ([.double x0]) ++ List.replicate (11 - (lg_sl ([.double x0])).length) Slot.unset).toArray = ls at hl ⊢
  have hl : lv_has ls 11 [(0, .double x0)] := hl
  unfold f_X6_rintOf at hF
  refine lv_dload_n hx hb dX6_rintOf_0 rfl (lv_at hl 0 rfl) ?_
  obtain ⟨q_1, hc_2, hF⟩ := bnd_some hF
  refine cS_d (As := [.double x0]) (rest := []) C X (c_X6_sizeOf l D  x0 q_1 hc_2 _) (va_cwS 1 hts (good_S q5_70 q5_71 q1_2 q5_72) rfl rfl rfl (by decide +kernel) ⟨Nat.le_of_ble_eq_true rfl, Nat.le_of_ble_eq_true rfl⟩) (eK X) eP (eD (A := A)) (eF X) hl.1 rfl rfl (Nat.le_of_ble_eq_true rfl) dX6_rintOf_1 ⟨Nat.le_of_ble_eq_true rfl, Nat.le_of_ble_eq_true rfl⟩ (fun t H1 locs1 ht hB hk hS => ?_)
  have X := Hx_after_none X hk hS
  clear hk hS ht hB
  generalize H1 = H at X ⊢
  generalize locs1 = locs at X ⊢
  refine lv_dstore_n (lv' := [(2, .double q_1), (0, .double x0)]) hx hb dX6_rintOf_4 rfl hl (by decide) rfl (fun ls hl => ?_)
  refine lv_dload_n hx hb dX6_rintOf_5 rfl (lv_at hl 0 rfl) ?_
  refine lv_ldc2d hx hb hown (hts _ q5_73) dX6_rintOf_6 ?_
  refine lv_dcmp hx hb dX6_rintOf_9 ?_
  refine lv_if_lt (tgt := 15) hx hb dX6_rintOf_10 (by decide) (fun c => ?_) (fun c => ?_)
  · replace hF := iT c hF
    refine lv_dload_n hx hb dX6_rintOf_15 rfl (lv_at hl 0 rfl) ?_
    refine lv_d2l hx hb dX6_rintOf_16 ?_
    refine lv_lstore (lv' := [(4, .long (FP.d2l q_1)), (2, .double q_1), (0, .double x0)]) hx hb dX6_rintOf_17 hl (by decide) rfl (fun ls hl => ?_)
    refine lv_dload_n hx hb dX6_rintOf_19 rfl (lv_at hl 1 rfl) ?_
    refine lv_lload hx hb dX6_rintOf_20 (lv_at hl 0 rfl) ?_
    refine lv_l2d hx hb dX6_rintOf_22 ?_
    obtain ⟨h_3, hF⟩ := grd_some hF
    refine lv_dsub hx hb dX6_rintOf_23 (n64_ok h_3) ?_
    refine lv_dstore (lv' := [(6, .double (FP.dsub q_1 (FP.l2d (FP.d2l q_1)))), (4, .long (FP.d2l q_1)), (2, .double q_1), (0, .double x0)]) hx hb dX6_rintOf_24 hl (by decide) rfl (fun ls hl => ?_)
    refine lv_dload hx hb dX6_rintOf_26 (lv_at hl 0 rfl) ?_
    refine lv_ldc2d hx hb hown (hts _ q1_40) dX6_rintOf_28 ?_
    refine lv_dcmp hx hb dX6_rintOf_31 ?_
    refine lv_if_gt (tgt := 53) hx hb dX6_rintOf_32 (by decide) (fun c => ?_) (fun c => ?_)
    · replace hF := iT c hF
      exact (k_X6_rintOf_53 l D ) C X (lv_sub hl [3, 1] rfl) hF
    · replace hF := iF c hF
      refine lv_dload hx hb dX6_rintOf_35 (lv_at hl 0 rfl) ?_
      refine lv_ldc2d hx hb hown (hts _ q1_40) dX6_rintOf_37 ?_
      refine lv_dcmp hx hb dX6_rintOf_40 ?_
      refine lv_if_ne (tgt := 57) hx hb dX6_rintOf_41 (by decide) (fun c => ?_) (fun c => ?_)
      · replace hF := iF c hF
        exact (k_X6_rintOf_57 l D ) C X (lv_sub hl [3, 1] rfl) hF
      · replace hF := iT c hF
        refine lv_lload hx hb dX6_rintOf_44 (lv_at hl 1 rfl) ?_
        refine lv_lconst (v := (1 : Int64)) hx hb dX6_rintOf_46 (by decide) ?_
        refine lv_land hx hb dX6_rintOf_47 ?_
        refine lv_lconst (v := (0 : Int64)) hx hb dX6_rintOf_48 (by decide) ?_
        refine W.lcmp hx hb dX6_rintOf_49 ?_
        refine lv_if_eq (tgt := 57) hx hb dX6_rintOf_50 (by decide) (fun c => ?_) (fun c => ?_)
        · have c := (lg_cmp_eq _ _).mp c
          replace hF := iT c hF
          exact (k_X6_rintOf_57 l D ) C X (lv_sub hl [3, 1] rfl) hF
        · have c := fun h => c ((lg_cmp_eq _ _).mpr h)
          replace hF := iF c hF
          exact (k_X6_rintOf_53 l D ) C X (lv_sub hl [3, 1] rfl) hF
  · replace hF := iF c hF
    refine lv_dload_n hx hb dX6_rintOf_13 rfl (lv_at hl 1 rfl) ?_
    have hq := Option.some.inj hF
    subst hq
    exact rt_d C X dX6_rintOf_14

/-! ### X6_leastOf -/
theorem dX6_leastOf_0 : decode cX6_leastOf 0 = .ok (.dload_n 0, 1) := by decide +kernel
theorem dX6_leastOf_1 : decode cX6_leastOf 1 = .ok (.dload_n 2, 1) := by decide +kernel
theorem dX6_leastOf_2 : decode cX6_leastOf 2 = .ok (.dcmp .g, 1) := by decide +kernel
theorem dX6_leastOf_3 : decode cX6_leastOf 3 = .ok (.ifCond .lt 16, 3) := by decide +kernel
theorem dX6_leastOf_6 : decode cX6_leastOf 6 = .ok (.dload_n 0, 1) := by decide +kernel
theorem dX6_leastOf_7 : decode cX6_leastOf 7 = .ok (.dload_n 2, 1) := by decide +kernel
theorem dX6_leastOf_8 : decode cX6_leastOf 8 = .ok (.dcmp .l, 1) := by decide +kernel
theorem dX6_leastOf_9 : decode cX6_leastOf 9 = .ok (.ifCond .ne 14, 3) := by decide +kernel
theorem dX6_leastOf_12 : decode cX6_leastOf 12 = .ok (.dload_n 0, 1) := by decide +kernel
theorem dX6_leastOf_13 : decode cX6_leastOf 13 = .ok (.invokestatic 36, 3) := by decide +kernel
theorem dX6_leastOf_16 : decode cX6_leastOf 16 = .ok (.ifCond .eq 7, 3) := by decide +kernel
theorem dX6_leastOf_19 : decode cX6_leastOf 19 = .ok (.dload_n 0, 1) := by decide +kernel
theorem dX6_leastOf_20 : decode cX6_leastOf 20 = .ok (.goto 4, 3) := by decide +kernel
theorem dX6_leastOf_23 : decode cX6_leastOf 23 = .ok (.dload_n 2, 1) := by decide +kernel
theorem dX6_leastOf_24 : decode cX6_leastOf 24 = .ok (.dreturn, 1) := by decide +kernel
abbrev R_X6_leastOf : Room := ({ frames := 1, cells := 0, slots := 0, locals := 21 } : Room)
def f_X6_leastOf (x0 : UInt64) (x1 : UInt64) : Option (UInt64) :=
  if (Op.cmpValue (FP.dcmp x0 x1) .g) < 0 then (some x0) else (if (Op.cmpValue (FP.dcmp x0 x1) .l) = 0 then (bnd (f_X6_isNegative x0) (fun q_1 => if q_1 = 0 then (some x1) else (some x0))) else (some x1))
set_option maxHeartbeats 4000000 in
set_option maxRecDepth 100000 in
theorem c_X6_leastOf (l : Launch) (D : Dx) (x0 : UInt64) (x1 : UInt64) (q : UInt64) (hF : f_X6_leastOf x0 x1 = some q) (sz : Nat) : Met l yX6_leastOf (ws_ yX6_leastOf cX6_leastOf 4 (some .double)) R_X6_leastOf (PC D ([]) [.double x0, .double x1] ([]) sz) (QD D (va_A ([]) sz) ([]) q) 0 0 (va_A ([]) sz) := by
  refine Met.ofW (cc := cX6_leastOf) (maxL := 4) (ret := (some .double)) (by decide) rfl ?_
  intro p e s m args below meth c s₁ B hml hv
  obtain ⟨rfl, hsz, hP, hK, hD, hN⟩ := hv
  subst hsz
  have C : Cx p s m _ meth c cX6_leastOf (some .double) 4 RX6 lw_all := Cx_of B hml
  have X := Hx_start hP hK hD hN
  obtain ⟨hx, hb, hr, -, hown, hts, hlk⟩ := id C
  generalize va_A ([]) s.heap.size = A at X ⊢
  have hl := lv_entry ([.double x0, .double x1]) (n := 4) (Nat.le_of_ble_eq_true rfl)
  rw [lg_entry_eq]
  generalize (lg_sl ([.double x0, .double x1]) ++ List.replicate (4 - (lg_sl ([.double x0, .double x1])).length) Slot.unset).toArray = ls at hl ⊢
  have hl : lv_has ls 4 [(0, .double x0), (2, .double x1)] := hl
  unfold f_X6_leastOf at hF
  refine lv_dload_n hx hb dX6_leastOf_0 rfl (lv_at hl 0 rfl) ?_
  refine lv_dload_n hx hb dX6_leastOf_1 rfl (lv_at hl 1 rfl) ?_
  refine lv_dcmp hx hb dX6_leastOf_2 ?_
  refine lv_if_lt (tgt := 19) hx hb dX6_leastOf_3 (by decide) (fun c => ?_) (fun c => ?_)
  · replace hF := iT c hF
    refine lv_dload_n hx hb dX6_leastOf_19 rfl (lv_at hl 0 rfl) ?_
    refine lv_goto (tgt := 24) hx hb dX6_leastOf_20 (by decide) ?_
    have hq := Option.some.inj hF
    subst hq
    exact rt_d C X dX6_leastOf_24
  · replace hF := iF c hF
    refine lv_dload_n hx hb dX6_leastOf_6 rfl (lv_at hl 0 rfl) ?_
    refine lv_dload_n hx hb dX6_leastOf_7 rfl (lv_at hl 1 rfl) ?_
    refine lv_dcmp hx hb dX6_leastOf_8 ?_
    refine lv_if_ne (tgt := 23) hx hb dX6_leastOf_9 (by decide) (fun c => ?_) (fun c => ?_)
    · replace hF := iF c hF
      refine lv_dload_n hx hb dX6_leastOf_23 rfl (lv_at hl 1 rfl) ?_
      have hq := Option.some.inj hF
      subst hq
      exact rt_d C X dX6_leastOf_24
    · replace hF := iT c hF
      refine lv_dload_n hx hb dX6_leastOf_12 rfl (lv_at hl 0 rfl) ?_
      obtain ⟨q_1, hc_2, hF⟩ := bnd_some hF
      refine cS_i (As := [.double x0]) (rest := []) C X (c_X6_isNegative l D  x0 q_1 hc_2 _) (va_cwS 1 hts (good_S q5_81 q5_82 q1_2 q5_83) rfl rfl rfl (by decide +kernel) ⟨Nat.le_of_ble_eq_true rfl, Nat.le_of_ble_eq_true rfl⟩) (eK X) eP (eD (A := A)) (eF X) hl.1 rfl rfl (Nat.le_of_ble_eq_true rfl) dX6_leastOf_13 ⟨Nat.le_of_ble_eq_true rfl, Nat.le_of_ble_eq_true rfl⟩ (fun t H1 locs1 ht hB hk hS => ?_)
      have X := Hx_after_none X hk hS
      clear hk hS ht hB
      generalize H1 = H at X ⊢
      generalize locs1 = locs at X ⊢
      refine lv_if_eq (tgt := 23) hx hb dX6_leastOf_16 (by decide) (fun c => ?_) (fun c => ?_)
      · replace hF := iT c hF
        refine lv_dload_n hx hb dX6_leastOf_23 rfl (lv_at hl 1 rfl) ?_
        have hq := Option.some.inj hF
        subst hq
        exact rt_d C X dX6_leastOf_24
      · replace hF := iF c hF
        refine lv_dload_n hx hb dX6_leastOf_19 rfl (lv_at hl 0 rfl) ?_
        refine lv_goto (tgt := 24) hx hb dX6_leastOf_20 (by decide) ?_
        have hq := Option.some.inj hF
        subst hq
        exact rt_d C X dX6_leastOf_24

/-! ### X6_mostOf -/
theorem dX6_mostOf_0 : decode cX6_mostOf 0 = .ok (.dload_n 0, 1) := by decide +kernel
theorem dX6_mostOf_1 : decode cX6_mostOf 1 = .ok (.dload_n 2, 1) := by decide +kernel
theorem dX6_mostOf_2 : decode cX6_mostOf 2 = .ok (.dcmp .l, 1) := by decide +kernel
theorem dX6_mostOf_3 : decode cX6_mostOf 3 = .ok (.ifCond .gt 16, 3) := by decide +kernel
theorem dX6_mostOf_6 : decode cX6_mostOf 6 = .ok (.dload_n 0, 1) := by decide +kernel
theorem dX6_mostOf_7 : decode cX6_mostOf 7 = .ok (.dload_n 2, 1) := by decide +kernel
theorem dX6_mostOf_8 : decode cX6_mostOf 8 = .ok (.dcmp .l, 1) := by decide +kernel
theorem dX6_mostOf_9 : decode cX6_mostOf 9 = .ok (.ifCond .ne 14, 3) := by decide +kernel
theorem dX6_mostOf_12 : decode cX6_mostOf 12 = .ok (.dload_n 2, 1) := by decide +kernel
theorem dX6_mostOf_13 : decode cX6_mostOf 13 = .ok (.invokestatic 36, 3) := by decide +kernel
theorem dX6_mostOf_16 : decode cX6_mostOf 16 = .ok (.ifCond .eq 7, 3) := by decide +kernel
theorem dX6_mostOf_19 : decode cX6_mostOf 19 = .ok (.dload_n 0, 1) := by decide +kernel
theorem dX6_mostOf_20 : decode cX6_mostOf 20 = .ok (.goto 4, 3) := by decide +kernel
theorem dX6_mostOf_23 : decode cX6_mostOf 23 = .ok (.dload_n 2, 1) := by decide +kernel
theorem dX6_mostOf_24 : decode cX6_mostOf 24 = .ok (.dreturn, 1) := by decide +kernel
abbrev R_X6_mostOf : Room := ({ frames := 1, cells := 0, slots := 0, locals := 21 } : Room)
def f_X6_mostOf (x0 : UInt64) (x1 : UInt64) : Option (UInt64) :=
  if 0 < (Op.cmpValue (FP.dcmp x0 x1) .l) then (some x0) else (if (Op.cmpValue (FP.dcmp x0 x1) .l) = 0 then (bnd (f_X6_isNegative x1) (fun q_1 => if q_1 = 0 then (some x1) else (some x0))) else (some x1))
set_option maxHeartbeats 4000000 in
set_option maxRecDepth 100000 in
theorem c_X6_mostOf (l : Launch) (D : Dx) (x0 : UInt64) (x1 : UInt64) (q : UInt64) (hF : f_X6_mostOf x0 x1 = some q) (sz : Nat) : Met l yX6_mostOf (ws_ yX6_mostOf cX6_mostOf 4 (some .double)) R_X6_mostOf (PC D ([]) [.double x0, .double x1] ([]) sz) (QD D (va_A ([]) sz) ([]) q) 0 0 (va_A ([]) sz) := by
  refine Met.ofW (cc := cX6_mostOf) (maxL := 4) (ret := (some .double)) (by decide) rfl ?_
  intro p e s m args below meth c s₁ B hml hv
  obtain ⟨rfl, hsz, hP, hK, hD, hN⟩ := hv
  subst hsz
  have C : Cx p s m _ meth c cX6_mostOf (some .double) 4 RX6 lw_all := Cx_of B hml
  have X := Hx_start hP hK hD hN
  obtain ⟨hx, hb, hr, -, hown, hts, hlk⟩ := id C
  generalize va_A ([]) s.heap.size = A at X ⊢
  have hl := lv_entry ([.double x0, .double x1]) (n := 4) (Nat.le_of_ble_eq_true rfl)
  rw [lg_entry_eq]
  generalize (lg_sl ([.double x0, .double x1]) ++ List.replicate (4 - (lg_sl ([.double x0, .double x1])).length) Slot.unset).toArray = ls at hl ⊢
  have hl : lv_has ls 4 [(0, .double x0), (2, .double x1)] := hl
  unfold f_X6_mostOf at hF
  refine lv_dload_n hx hb dX6_mostOf_0 rfl (lv_at hl 0 rfl) ?_
  refine lv_dload_n hx hb dX6_mostOf_1 rfl (lv_at hl 1 rfl) ?_
  refine lv_dcmp hx hb dX6_mostOf_2 ?_
  refine lv_if_gt (tgt := 19) hx hb dX6_mostOf_3 (by decide) (fun c => ?_) (fun c => ?_)
  · replace hF := iT c hF
    refine lv_dload_n hx hb dX6_mostOf_19 rfl (lv_at hl 0 rfl) ?_
    refine lv_goto (tgt := 24) hx hb dX6_mostOf_20 (by decide) ?_
    have hq := Option.some.inj hF
    subst hq
    exact rt_d C X dX6_mostOf_24
  · replace hF := iF c hF
    refine lv_dload_n hx hb dX6_mostOf_6 rfl (lv_at hl 0 rfl) ?_
    refine lv_dload_n hx hb dX6_mostOf_7 rfl (lv_at hl 1 rfl) ?_
    refine lv_dcmp hx hb dX6_mostOf_8 ?_
    refine lv_if_ne (tgt := 23) hx hb dX6_mostOf_9 (by decide) (fun c => ?_) (fun c => ?_)
    · replace hF := iF c hF
      refine lv_dload_n hx hb dX6_mostOf_23 rfl (lv_at hl 1 rfl) ?_
      have hq := Option.some.inj hF
      subst hq
      exact rt_d C X dX6_mostOf_24
    · replace hF := iT c hF
      refine lv_dload_n hx hb dX6_mostOf_12 rfl (lv_at hl 1 rfl) ?_
      obtain ⟨q_1, hc_2, hF⟩ := bnd_some hF
      refine cS_i (As := [.double x1]) (rest := []) C X (c_X6_isNegative l D  x1 q_1 hc_2 _) (va_cwS 1 hts (good_S q5_81 q5_82 q1_2 q5_83) rfl rfl rfl (by decide +kernel) ⟨Nat.le_of_ble_eq_true rfl, Nat.le_of_ble_eq_true rfl⟩) (eK X) eP (eD (A := A)) (eF X) hl.1 rfl rfl (Nat.le_of_ble_eq_true rfl) dX6_mostOf_13 ⟨Nat.le_of_ble_eq_true rfl, Nat.le_of_ble_eq_true rfl⟩ (fun t H1 locs1 ht hB hk hS => ?_)
      have X := Hx_after_none X hk hS
      clear hk hS ht hB
      generalize H1 = H at X ⊢
      generalize locs1 = locs at X ⊢
      refine lv_if_eq (tgt := 23) hx hb dX6_mostOf_16 (by decide) (fun c => ?_) (fun c => ?_)
      · replace hF := iT c hF
        refine lv_dload_n hx hb dX6_mostOf_23 rfl (lv_at hl 1 rfl) ?_
        have hq := Option.some.inj hF
        subst hq
        exact rt_d C X dX6_mostOf_24
      · replace hF := iF c hF
        refine lv_dload_n hx hb dX6_mostOf_19 rfl (lv_at hl 0 rfl) ?_
        refine lv_goto (tgt := 24) hx hb dX6_mostOf_20 (by decide) ?_
        have hq := Option.some.inj hF
        subst hq
        exact rt_d C X dX6_mostOf_24

/-! ### X6_scaled -/
theorem dX6_scaled_0 : decode cX6_scaled 0 = .ok (.iload_n 3, 1) := by decide +kernel
theorem dX6_scaled_1 : decode cX6_scaled 1 = .ok (.iconst 2, 1) := by decide +kernel
theorem dX6_scaled_2 : decode cX6_scaled 2 = .ok (.idiv, 1) := by decide +kernel
theorem dX6_scaled_3 : decode cX6_scaled 3 = .ok (.istore 4, 2) := by decide +kernel
theorem dX6_scaled_5 : decode cX6_scaled 5 = .ok (.iload 4, 2) := by decide +kernel
theorem dX6_scaled_7 : decode cX6_scaled 7 = .ok (.sipush (-1074), 3) := by decide +kernel
theorem dX6_scaled_10 : decode cX6_scaled 10 = .ok (.isub, 1) := by decide +kernel
theorem dX6_scaled_11 : decode cX6_scaled 11 = .ok (.istore 5, 2) := by decide +kernel
theorem dX6_scaled_13 : decode cX6_scaled 13 = .ok (.iload_n 3, 1) := by decide +kernel
theorem dX6_scaled_14 : decode cX6_scaled 14 = .ok (.iload 4, 2) := by decide +kernel
theorem dX6_scaled_16 : decode cX6_scaled 16 = .ok (.isub, 1) := by decide +kernel
theorem dX6_scaled_17 : decode cX6_scaled 17 = .ok (.sipush (-1074), 3) := by decide +kernel
theorem dX6_scaled_20 : decode cX6_scaled 20 = .ok (.isub, 1) := by decide +kernel
theorem dX6_scaled_21 : decode cX6_scaled 21 = .ok (.istore 6, 2) := by decide +kernel
theorem dX6_scaled_23 : decode cX6_scaled 23 = .ok (.iload 5, 2) := by decide +kernel
theorem dX6_scaled_25 : decode cX6_scaled 25 = .ok (.ifCond .lt 24, 3) := by decide +kernel
theorem dX6_scaled_28 : decode cX6_scaled 28 = .ok (.iload 6, 2) := by decide +kernel
theorem dX6_scaled_30 : decode cX6_scaled 30 = .ok (.ifCond .lt 19, 3) := by decide +kernel
theorem dX6_scaled_33 : decode cX6_scaled 33 = .ok (.iload 5, 2) := by decide +kernel
theorem dX6_scaled_35 : decode cX6_scaled 35 = .ok (.sipush 2098, 3) := by decide +kernel
theorem dX6_scaled_38 : decode cX6_scaled 38 = .ok (.if_icmp .ge 11, 3) := by decide +kernel
theorem dX6_scaled_41 : decode cX6_scaled 41 = .ok (.iload 6, 2) := by decide +kernel
theorem dX6_scaled_43 : decode cX6_scaled 43 = .ok (.sipush 2098, 3) := by decide +kernel
theorem dX6_scaled_46 : decode cX6_scaled 46 = .ok (.if_icmp .lt 5, 3) := by decide +kernel
theorem dX6_scaled_49 : decode cX6_scaled 49 = .ok (.dload_n 1, 1) := by decide +kernel
theorem dX6_scaled_50 : decode cX6_scaled 50 = .ok (.dreturn, 1) := by decide +kernel
theorem dX6_scaled_51 : decode cX6_scaled 51 = .ok (.dload_n 1, 1) := by decide +kernel
theorem dX6_scaled_52 : decode cX6_scaled 52 = .ok (.aload_n 0, 1) := by decide +kernel
theorem dX6_scaled_53 : decode cX6_scaled 53 = .ok (.getfield 11, 3) := by decide +kernel
theorem dX6_scaled_56 : decode cX6_scaled 56 = .ok (.iload 5, 2) := by decide +kernel
theorem dX6_scaled_58 : decode cX6_scaled 58 = .ok (.daload, 1) := by decide +kernel
theorem dX6_scaled_59 : decode cX6_scaled 59 = .ok (.dmul, 1) := by decide +kernel
theorem dX6_scaled_60 : decode cX6_scaled 60 = .ok (.aload_n 0, 1) := by decide +kernel
theorem dX6_scaled_61 : decode cX6_scaled 61 = .ok (.getfield 11, 3) := by decide +kernel
theorem dX6_scaled_64 : decode cX6_scaled 64 = .ok (.iload 6, 2) := by decide +kernel
theorem dX6_scaled_66 : decode cX6_scaled 66 = .ok (.daload, 1) := by decide +kernel
theorem dX6_scaled_67 : decode cX6_scaled 67 = .ok (.dmul, 1) := by decide +kernel
theorem dX6_scaled_68 : decode cX6_scaled 68 = .ok (.dreturn, 1) := by decide +kernel
abbrev R_X6_scaled : Room := ({ frames := 0, cells := 0, slots := 0, locals := 0 } : Room)
def f_X6_scaled (gT : Gs) (x0 : UInt64) (x1 : Int32) : Option (UInt64) :=
  if ((x1 / (2 : Int32)) - (-1074 : Int32)) < 0 then (some x0) else (if ((x1 - (x1 / (2 : Int32))) - (-1074 : Int32)) < 0 then (some x0) else (if (2098 : Int32) ≤ ((x1 / (2 : Int32)) - (-1074 : Int32)) then (some x0) else (if ((x1 - (x1 / (2 : Int32))) - (-1074 : Int32)) < (2098 : Int32) then (grd (inB ((x1 / (2 : Int32)) - (-1074 : Int32)) 2098) (grd (n64 (FP.dmul x0 (gDA gT 0 ((x1 / (2 : Int32)) - (-1074 : Int32)).toNatClampNeg))) (grd (inB ((x1 - (x1 / (2 : Int32))) - (-1074 : Int32)) 2098) (grd (n64 (FP.dmul (FP.dmul x0 (gDA gT 0 ((x1 / (2 : Int32)) - (-1074 : Int32)).toNatClampNeg)) (gDA gT 0 ((x1 - (x1 / (2 : Int32))) - (-1074 : Int32)).toNatClampNeg))) (some (FP.dmul (FP.dmul x0 (gDA gT 0 ((x1 / (2 : Int32)) - (-1074 : Int32)).toNatClampNeg)) (gDA gT 0 ((x1 - (x1 / (2 : Int32))) - (-1074 : Int32)).toNatClampNeg))))))) else (some x0))))
set_option maxHeartbeats 4000000 in
set_option maxRecDepth 100000 in
theorem c_X6_scaled (l : Launch) (D : Dx) (hT : Nat) (aT : Nat → Nat) (yT : Nat → ClassId) (gT : Gs) (x0 : UInt64) (x1 : Int32) (q : UInt64) (hF : f_X6_scaled gT x0 x1 = some q) (sz : Nat) : Met l yX6_scaled (ws_ yX6_scaled cX6_scaled 7 (some .double)) R_X6_scaled (PC D (tX6 yT) [.ref hT, .double x0, .int x1] (wX6 hT aT yT gT) sz) (QD D (va_A (wX6 hT aT yT gT) sz) (wX6 hT aT yT gT) q) 0 0 (va_A (wX6 hT aT yT gT) sz) := by
  refine Met.ofW (cc := cX6_scaled) (maxL := 7) (ret := (some .double)) (by decide) rfl ?_
  intro p e s m args below meth c s₁ B hml hv
  obtain ⟨rfl, hsz, hP, hK, hD, hN⟩ := hv
  subst hsz
  have C : Cx p s m _ meth c cX6_scaled (some .double) 7 RX6 lw_all := Cx_of B hml
  have X := Hx_start hP hK hD hN
  obtain ⟨hx, hb, hr, -, hown, hts, hlk⟩ := id C
  generalize va_A (wX6 hT aT yT gT) s.heap.size = A at X ⊢
  have hl := lv_entry ([.ref hT, .double x0, .int x1]) (n := 7) (Nat.le_of_ble_eq_true rfl)
  rw [lg_entry_eq]
  generalize (lg_sl ([.ref hT, .double x0, .int x1]) ++ List.replicate (7 - (lg_sl ([.ref hT, .double x0, .int x1])).length) Slot.unset).toArray = ls at hl ⊢
  have hl : lv_has ls 7 [(0, .ref hT), (1, .double x0), (3, .int x1)] := hl
  unfold f_X6_scaled at hF
  refine lv_iload_n hx hb dX6_scaled_0 rfl (lv_at hl 2 rfl) ?_
  refine lv_iconst (v := (2 : Int32)) hx hb dX6_scaled_1 (by decide) ?_
  refine lv_idiv hx hb dX6_scaled_2 (by decide) ?_
  refine lv_istore (lv' := [(4, .int (x1 / (2 : Int32))), (0, .ref hT), (1, .double x0), (3, .int x1)]) hx hb dX6_scaled_3 hl (by decide) rfl (fun ls hl => ?_)
  refine lv_iload hx hb dX6_scaled_5 (lv_at hl 0 rfl) ?_
  refine lv_sipush (v := (-1074 : Int32)) hx hb dX6_scaled_7 (by decide) ?_
  refine lv_isub hx hb dX6_scaled_10 ?_
  refine lv_istore (lv' := [(5, .int ((x1 / (2 : Int32)) - (-1074 : Int32))), (4, .int (x1 / (2 : Int32))), (0, .ref hT), (1, .double x0), (3, .int x1)]) hx hb dX6_scaled_11 hl (by decide) rfl (fun ls hl => ?_)
  refine lv_iload_n hx hb dX6_scaled_13 rfl (lv_at hl 4 rfl) ?_
  refine lv_iload hx hb dX6_scaled_14 (lv_at hl 1 rfl) ?_
  refine lv_isub hx hb dX6_scaled_16 ?_
  refine lv_sipush (v := (-1074 : Int32)) hx hb dX6_scaled_17 (by decide) ?_
  refine lv_isub hx hb dX6_scaled_20 ?_
  refine lv_istore (lv' := [(6, .int ((x1 - (x1 / (2 : Int32))) - (-1074 : Int32))), (5, .int ((x1 / (2 : Int32)) - (-1074 : Int32))), (4, .int (x1 / (2 : Int32))), (0, .ref hT), (1, .double x0), (3, .int x1)]) hx hb dX6_scaled_21 hl (by decide) rfl (fun ls hl => ?_)
  refine lv_iload hx hb dX6_scaled_23 (lv_at hl 1 rfl) ?_
  refine lv_if_lt (tgt := 49) hx hb dX6_scaled_25 (by decide) (fun c => ?_) (fun c => ?_)
  · replace hF := iT c hF
    refine lv_dload_n hx hb dX6_scaled_49 rfl (lv_at hl 4 rfl) ?_
    have hq := Option.some.inj hF
    subst hq
    exact rt_d C X dX6_scaled_50
  · replace hF := iF c hF
    refine lv_iload hx hb dX6_scaled_28 (lv_at hl 0 rfl) ?_
    refine lv_if_lt (tgt := 49) hx hb dX6_scaled_30 (by decide) (fun c => ?_) (fun c => ?_)
    · replace hF := iT c hF
      refine lv_dload_n hx hb dX6_scaled_49 rfl (lv_at hl 4 rfl) ?_
      have hq := Option.some.inj hF
      subst hq
      exact rt_d C X dX6_scaled_50
    · replace hF := iF c hF
      refine lv_iload hx hb dX6_scaled_33 (lv_at hl 1 rfl) ?_
      refine lv_sipush (v := (2098 : Int32)) hx hb dX6_scaled_35 (by decide) ?_
      refine lv_icmp_ge (tgt := 49) hx hb dX6_scaled_38 (by decide) (fun c => ?_) (fun c => ?_)
      · replace hF := iT c hF
        refine lv_dload_n hx hb dX6_scaled_49 rfl (lv_at hl 4 rfl) ?_
        have hq := Option.some.inj hF
        subst hq
        exact rt_d C X dX6_scaled_50
      · replace hF := iF c hF
        refine lv_iload hx hb dX6_scaled_41 (lv_at hl 0 rfl) ?_
        refine lv_sipush (v := (2098 : Int32)) hx hb dX6_scaled_43 (by decide) ?_
        refine lv_icmp_lt (tgt := 51) hx hb dX6_scaled_46 (by decide) (fun c => ?_) (fun c => ?_)
        · replace hF := iT c hF
          refine lv_dload_n hx hb dX6_scaled_51 rfl (lv_at hl 4 rfl) ?_
          refine lv_aload_n hx hb dX6_scaled_52 rfl (lv_at hl 3 rfl) ?_
          refine va_get (D := D.1) (ci := 6) (v := .ref (aT 0)) (C := RX6) (T := TX6) (N := 1) hx hb hts wi_X6 hown X.1 X.2.1 0 rfl rfl 0 (by decide) (hts _ q1_41) (fun _ h9 => h9) (fl_get (by decide)) dX6_scaled_53 ?_
          refine lv_iload hx hb dX6_scaled_56 (lv_at hl 1 rfl) ?_
          obtain ⟨h_1, hF⟩ := grd_some hF
          refine va_dald (D := D.1) (f := gDA gT 0) hx hb X.1 X.2.1 1 0 rfl rfl (inB_ok h_1) dX6_scaled_58 ?_
          obtain ⟨h_2, hF⟩ := grd_some hF
          refine lv_dmul hx hb dX6_scaled_59 (n64_ok h_2) ?_
          refine lv_aload_n hx hb dX6_scaled_60 rfl (lv_at hl 3 rfl) ?_
          refine va_get (D := D.1) (ci := 6) (v := .ref (aT 0)) (C := RX6) (T := TX6) (N := 1) hx hb hts wi_X6 hown X.1 X.2.1 0 rfl rfl 0 (by decide) (hts _ q1_41) (fun _ h9 => h9) (fl_get (by decide)) dX6_scaled_61 ?_
          refine lv_iload hx hb dX6_scaled_64 (lv_at hl 0 rfl) ?_
          obtain ⟨h_3, hF⟩ := grd_some hF
          refine va_dald (D := D.1) (f := gDA gT 0) hx hb X.1 X.2.1 1 0 rfl rfl (inB_ok h_3) dX6_scaled_66 ?_
          obtain ⟨h_4, hF⟩ := grd_some hF
          refine lv_dmul hx hb dX6_scaled_67 (n64_ok h_4) ?_
          have hq := Option.some.inj hF
          subst hq
          exact rt_d C X dX6_scaled_68
        · replace hF := iF c hF
          refine lv_dload_n hx hb dX6_scaled_49 rfl (lv_at hl 4 rfl) ?_
          have hq := Option.some.inj hF
          subst hq
          exact rt_d C X dX6_scaled_50

/-! ### X6_powerOf -/
theorem dX6_powerOf_0 : decode cX6_powerOf 0 = .ok (.iconst 0, 1) := by decide +kernel
theorem dX6_powerOf_1 : decode cX6_powerOf 1 = .ok (.istore_n 3, 1) := by decide +kernel
theorem dX6_powerOf_2 : decode cX6_powerOf 2 = .ok (.sipush 2098, 3) := by decide +kernel
theorem dX6_powerOf_5 : decode cX6_powerOf 5 = .ok (.istore 4, 2) := by decide +kernel
theorem dX6_powerOf_7 : decode cX6_powerOf 7 = .ok (.iconst 0, 1) := by decide +kernel
theorem dX6_powerOf_8 : decode cX6_powerOf 8 = .ok (.istore 5, 2) := by decide +kernel
theorem dX6_powerOf_10 : decode cX6_powerOf 10 = .ok (.iload 5, 2) := by decide +kernel
theorem dX6_powerOf_12 : decode cX6_powerOf 12 = .ok (.bipush 12, 2) := by decide +kernel
theorem dX6_powerOf_14 : decode cX6_powerOf 14 = .ok (.if_icmp .ge 47, 3) := by decide +kernel
theorem dX6_powerOf_17 : decode cX6_powerOf 17 = .ok (.iload 4, 2) := by decide +kernel
theorem dX6_powerOf_19 : decode cX6_powerOf 19 = .ok (.iload_n 3, 1) := by decide +kernel
theorem dX6_powerOf_20 : decode cX6_powerOf 20 = .ok (.isub, 1) := by decide +kernel
theorem dX6_powerOf_21 : decode cX6_powerOf 21 = .ok (.iconst 1, 1) := by decide +kernel
theorem dX6_powerOf_22 : decode cX6_powerOf 22 = .ok (.if_icmp .le 39, 3) := by decide +kernel
theorem dX6_powerOf_25 : decode cX6_powerOf 25 = .ok (.iload_n 3, 1) := by decide +kernel
theorem dX6_powerOf_26 : decode cX6_powerOf 26 = .ok (.iload 4, 2) := by decide +kernel
theorem dX6_powerOf_28 : decode cX6_powerOf 28 = .ok (.iadd, 1) := by decide +kernel
theorem dX6_powerOf_29 : decode cX6_powerOf 29 = .ok (.iconst 1, 1) := by decide +kernel
theorem dX6_powerOf_30 : decode cX6_powerOf 30 = .ok (.iushr, 1) := by decide +kernel
theorem dX6_powerOf_31 : decode cX6_powerOf 31 = .ok (.istore 6, 2) := by decide +kernel
theorem dX6_powerOf_33 : decode cX6_powerOf 33 = .ok (.aload_n 0, 1) := by decide +kernel
theorem dX6_powerOf_34 : decode cX6_powerOf 34 = .ok (.getfield 11, 3) := by decide +kernel
theorem dX6_powerOf_37 : decode cX6_powerOf 37 = .ok (.iload 6, 2) := by decide +kernel
theorem dX6_powerOf_39 : decode cX6_powerOf 39 = .ok (.daload, 1) := by decide +kernel
theorem dX6_powerOf_40 : decode cX6_powerOf 40 = .ok (.dload_n 1, 1) := by decide +kernel
theorem dX6_powerOf_41 : decode cX6_powerOf 41 = .ok (.dcmp .g, 1) := by decide +kernel
theorem dX6_powerOf_42 : decode cX6_powerOf 42 = .ok (.ifCond .gt 9, 3) := by decide +kernel
theorem dX6_powerOf_45 : decode cX6_powerOf 45 = .ok (.iload 6, 2) := by decide +kernel
theorem dX6_powerOf_47 : decode cX6_powerOf 47 = .ok (.istore_n 3, 1) := by decide +kernel
theorem dX6_powerOf_48 : decode cX6_powerOf 48 = .ok (.goto 7, 3) := by decide +kernel
theorem dX6_powerOf_51 : decode cX6_powerOf 51 = .ok (.iload 6, 2) := by decide +kernel
theorem dX6_powerOf_53 : decode cX6_powerOf 53 = .ok (.istore 4, 2) := by decide +kernel
theorem dX6_powerOf_55 : decode cX6_powerOf 55 = .ok (.iinc 5 1, 3) := by decide +kernel
theorem dX6_powerOf_58 : decode cX6_powerOf 58 = .ok (.goto (-48), 3) := by decide +kernel
theorem dX6_powerOf_61 : decode cX6_powerOf 61 = .ok (.iload_n 3, 1) := by decide +kernel
theorem dX6_powerOf_62 : decode cX6_powerOf 62 = .ok (.sipush (-1074), 3) := by decide +kernel
theorem dX6_powerOf_65 : decode cX6_powerOf 65 = .ok (.iadd, 1) := by decide +kernel
theorem dX6_powerOf_66 : decode cX6_powerOf 66 = .ok (.ireturn, 1) := by decide +kernel
abbrev R_X6_powerOf : Room := ({ frames := 0, cells := 0, slots := 0, locals := 0 } : Room)
def b_X6_powerOf_55 (n : Nat) (rec : (Gs → UInt64 → Int32 → Int32 → Int32 → Option (Int32))) (gT : Gs) (v1 : UInt64) (v3 : Int32) (v4 : Int32) (v5 : Int32) : Option (Int32) :=
  rec gT v1 v3 v4 (v5 + (1 : Int32))
def h_X6_powerOf_10 (n : Nat) (rec : (Gs → UInt64 → Int32 → Int32 → Int32 → Option (Int32))) (gT : Gs) (v1 : UInt64) (v3 : Int32) (v4 : Int32) (v5 : Int32) : Option (Int32) :=
  if (12 : Int32) ≤ v5 then (some (v3 + (-1074 : Int32))) else (if (v4 - v3) ≤ (1 : Int32) then (some (v3 + (-1074 : Int32))) else (grd (inB (((v3 + v4).toUInt32 >>> ((1 : Int32).toUInt32 &&& Int32.toUInt32 31)).toInt32) 2098) (if 0 < (Op.cmpValue (FP.dcmp (gDA gT 0 (((v3 + v4).toUInt32 >>> ((1 : Int32).toUInt32 &&& Int32.toUInt32 31)).toInt32).toNatClampNeg) v1) .g) then (b_X6_powerOf_55 n rec gT v1 v3 (((v3 + v4).toUInt32 >>> ((1 : Int32).toUInt32 &&& Int32.toUInt32 31)).toInt32) v5) else (b_X6_powerOf_55 n rec gT v1 (((v3 + v4).toUInt32 >>> ((1 : Int32).toUInt32 &&& Int32.toUInt32 31)).toInt32) v4 v5))))
def L_X6_powerOf (n : Nat) : Nat → (Gs → UInt64 → Int32 → Int32 → Int32 → Option (Int32))
  | 0 => ((fun _ _ _ _ _ => none))
  | k + 1 => (h_X6_powerOf_10 n (L_X6_powerOf n k))
def f_X6_powerOf (n : Nat) (gT : Gs) (x0 : UInt64) : Option (Int32) :=
  (L_X6_powerOf n n) gT x0 (0 : Int32) (2098 : Int32) (0 : Int32)
def S_X6_powerOf_55 (l : Launch) (D : Dx) (hT : Nat) (aT : Nat → Nat) (yT : Nat → ClassId) (fn : Gs → UInt64 → Int32 → Int32 → Int32 → Option (Int32)) : Prop :=
  ∀ {p : Program} {e : Env} {s : State} {m : MethodId} {args : Array Value} {below : List Frame} {meth : Method} {c : Code} {H : Heap} {locs : List Loc} {A : Nat → Prop} {ls : Array Slot} {gT : Gs} {v1 : UInt64} {v3 : Int32} {v4 : Int32} {v5 : Int32} {q : Int32}, Cx p s m args meth c cX6_powerOf (some .int) 7 RX6 lw_all → Hx D (tX6 yT) A s H locs (wX6 hT aT yT gT) → lv_has ls 7 [(0, .ref hT), (1, .double v1), (3, .int v3), (4, .int v4), (5, .int v5)] → fn gT v1 v3 v4 v5 = some q → W p l e R_X6_powerOf s m args below meth c H locs 0 0 (MQ below (QI D A (wX6 hT aT yT gT) q) args s 0 0 A) (F0 m 55 ls [])
def S_X6_powerOf_10 (l : Launch) (D : Dx) (hT : Nat) (aT : Nat → Nat) (yT : Nat → ClassId) (fn : Gs → UInt64 → Int32 → Int32 → Int32 → Option (Int32)) : Prop :=
  ∀ {p : Program} {e : Env} {s : State} {m : MethodId} {args : Array Value} {below : List Frame} {meth : Method} {c : Code} {H : Heap} {locs : List Loc} {A : Nat → Prop} {ls : Array Slot} {gT : Gs} {v1 : UInt64} {v3 : Int32} {v4 : Int32} {v5 : Int32} {q : Int32}, Cx p s m args meth c cX6_powerOf (some .int) 7 RX6 lw_all → Hx D (tX6 yT) A s H locs (wX6 hT aT yT gT) → lv_has ls 7 [(0, .ref hT), (1, .double v1), (3, .int v3), (4, .int v4), (5, .int v5)] → fn gT v1 v3 v4 v5 = some q → W p l e R_X6_powerOf s m args below meth c H locs 0 0 (MQ below (QI D A (wX6 hT aT yT gT) q) args s 0 0 A) (F0 m 10 ls [])
def SH_X6_powerOf (l : Launch) (D : Dx) (hT : Nat) (aT : Nat → Nat) (yT : Nat → ClassId) (rec : (Gs → UInt64 → Int32 → Int32 → Int32 → Option (Int32))) : Prop := S_X6_powerOf_10 l D hT aT yT rec
set_option maxHeartbeats 4000000 in
set_option maxRecDepth 100000 in
theorem k_X6_powerOf_55 (l : Launch) (D : Dx) (hT : Nat) (aT : Nat → Nat) (yT : Nat → ClassId) (n : Nat) (rec : (Gs → UInt64 → Int32 → Int32 → Int32 → Option (Int32))) (IH : SH_X6_powerOf l D hT aT yT rec) : S_X6_powerOf_55 l D hT aT yT (b_X6_powerOf_55 n rec) := by
  intro p e s m args below meth c H locs A ls gT v1 v3 v4 v5 q C X hl hF
  obtain ⟨hx, hb, hr, hml, hown, hts, hlk⟩ := id C
  unfold b_X6_powerOf_55 at hF
  refine lv_iinc (v := v5 + (1 : Int32)) (lv' := [(5, .int (v5 + (1 : Int32))), (0, .ref hT), (1, .double v1), (3, .int v3), (4, .int v4)]) hx hb dX6_powerOf_55 hl (k := 4) rfl rfl (by decide) rfl (fun ls hl => ?_)
  refine lv_goto (tgt := 10) hx hb dX6_powerOf_58 (by decide) ?_
  exact IH C X (lv_sub hl [1, 2, 3, 4, 0] rfl) hF
set_option maxHeartbeats 4000000 in
set_option maxRecDepth 100000 in
theorem k_X6_powerOf_10 (l : Launch) (D : Dx) (hT : Nat) (aT : Nat → Nat) (yT : Nat → ClassId) (n : Nat) (rec : (Gs → UInt64 → Int32 → Int32 → Int32 → Option (Int32))) (IH : SH_X6_powerOf l D hT aT yT rec) : S_X6_powerOf_10 l D hT aT yT (h_X6_powerOf_10 n rec) := by
  intro p e s m args below meth c H locs A ls gT v1 v3 v4 v5 q C X hl hF
  obtain ⟨hx, hb, hr, hml, hown, hts, hlk⟩ := id C
  unfold h_X6_powerOf_10 at hF
  refine lv_iload hx hb dX6_powerOf_10 (lv_at hl 4 rfl) ?_
  refine lv_bipush (v := (12 : Int32)) hx hb dX6_powerOf_12 (by decide) ?_
  refine lv_icmp_ge (tgt := 61) hx hb dX6_powerOf_14 (by decide) (fun c => ?_) (fun c => ?_)
  · replace hF := iT c hF
    refine lv_iload_n hx hb dX6_powerOf_61 rfl (lv_at hl 2 rfl) ?_
    refine lv_sipush (v := (-1074 : Int32)) hx hb dX6_powerOf_62 (by decide) ?_
    refine lv_iadd hx hb dX6_powerOf_65 ?_
    have hq := Option.some.inj hF
    subst hq
    exact rt_i C X dX6_powerOf_66
  · replace hF := iF c hF
    refine lv_iload hx hb dX6_powerOf_17 (lv_at hl 3 rfl) ?_
    refine lv_iload_n hx hb dX6_powerOf_19 rfl (lv_at hl 2 rfl) ?_
    refine lv_isub hx hb dX6_powerOf_20 ?_
    refine lv_iconst (v := (1 : Int32)) hx hb dX6_powerOf_21 (by decide) ?_
    refine lv_icmp_le (tgt := 61) hx hb dX6_powerOf_22 (by decide) (fun c => ?_) (fun c => ?_)
    · replace hF := iT c hF
      refine lv_iload_n hx hb dX6_powerOf_61 rfl (lv_at hl 2 rfl) ?_
      refine lv_sipush (v := (-1074 : Int32)) hx hb dX6_powerOf_62 (by decide) ?_
      refine lv_iadd hx hb dX6_powerOf_65 ?_
      have hq := Option.some.inj hF
      subst hq
      exact rt_i C X dX6_powerOf_66
    · replace hF := iF c hF
      refine lv_iload_n hx hb dX6_powerOf_25 rfl (lv_at hl 2 rfl) ?_
      refine lv_iload hx hb dX6_powerOf_26 (lv_at hl 3 rfl) ?_
      refine lv_iadd hx hb dX6_powerOf_28 ?_
      refine lv_iconst (v := (1 : Int32)) hx hb dX6_powerOf_29 (by decide) ?_
      refine lv_iushr hx hb dX6_powerOf_30 rfl ?_
      refine lv_istore (lv' := [(6, .int (((v3 + v4).toUInt32 >>> ((1 : Int32).toUInt32 &&& Int32.toUInt32 31)).toInt32)), (0, .ref hT), (1, .double v1), (3, .int v3), (4, .int v4), (5, .int v5)]) hx hb dX6_powerOf_31 hl (by decide) rfl (fun ls hl => ?_)
      refine lv_aload_n hx hb dX6_powerOf_33 rfl (lv_at hl 1 rfl) ?_
      refine va_get (D := D.1) (ci := 6) (v := .ref (aT 0)) (C := RX6) (T := TX6) (N := 1) hx hb hts wi_X6 hown X.1 X.2.1 0 rfl rfl 0 (by decide) (hts _ q1_41) (fun _ h9 => h9) (fl_get (by decide)) dX6_powerOf_34 ?_
      refine lv_iload hx hb dX6_powerOf_37 (lv_at hl 0 rfl) ?_
      obtain ⟨h_1, hF⟩ := grd_some hF
      refine va_dald (D := D.1) (f := gDA gT 0) hx hb X.1 X.2.1 1 0 rfl rfl (inB_ok h_1) dX6_powerOf_39 ?_
      refine lv_dload_n hx hb dX6_powerOf_40 rfl (lv_at hl 2 rfl) ?_
      refine lv_dcmp hx hb dX6_powerOf_41 ?_
      refine lv_if_gt (tgt := 51) hx hb dX6_powerOf_42 (by decide) (fun c => ?_) (fun c => ?_)
      · replace hF := iT c hF
        refine lv_iload hx hb dX6_powerOf_51 (lv_at hl 0 rfl) ?_
        refine lv_istore (lv' := [(4, .int (((v3 + v4).toUInt32 >>> ((1 : Int32).toUInt32 &&& Int32.toUInt32 31)).toInt32)), (6, .int (((v3 + v4).toUInt32 >>> ((1 : Int32).toUInt32 &&& Int32.toUInt32 31)).toInt32)), (0, .ref hT), (1, .double v1), (3, .int v3), (5, .int v5)]) hx hb dX6_powerOf_53 hl (by decide) rfl (fun ls hl => ?_)
        exact (k_X6_powerOf_55 l D hT aT yT n rec IH) C X (lv_sub hl [2, 3, 4, 0, 5] rfl) hF
      · replace hF := iF c hF
        refine lv_iload hx hb dX6_powerOf_45 (lv_at hl 0 rfl) ?_
        refine lv_istore_n (lv' := [(3, .int (((v3 + v4).toUInt32 >>> ((1 : Int32).toUInt32 &&& Int32.toUInt32 31)).toInt32)), (6, .int (((v3 + v4).toUInt32 >>> ((1 : Int32).toUInt32 &&& Int32.toUInt32 31)).toInt32)), (0, .ref hT), (1, .double v1), (4, .int v4), (5, .int v5)]) hx hb dX6_powerOf_47 rfl hl (by decide) rfl (fun ls hl => ?_)
        refine lv_goto (tgt := 55) hx hb dX6_powerOf_48 (by decide) ?_
        exact (k_X6_powerOf_55 l D hT aT yT n rec IH) C X (lv_sub hl [2, 3, 0, 4, 5] rfl) hF
theorem kL_X6_powerOf (l : Launch) (D : Dx) (hT : Nat) (aT : Nat → Nat) (yT : Nat → ClassId) (n : Nat) : ∀ k, SH_X6_powerOf l D hT aT yT (L_X6_powerOf n k)
  | 0 => fun _ _ _ h => by cases h
  | k + 1 => k_X6_powerOf_10 l D hT aT yT n _ (kL_X6_powerOf l D hT aT yT n k)
set_option maxHeartbeats 4000000 in
set_option maxRecDepth 100000 in
theorem c_X6_powerOf (l : Launch) (D : Dx) (hT : Nat) (aT : Nat → Nat) (yT : Nat → ClassId) (n : Nat) (gT : Gs) (x0 : UInt64) (q : Int32) (hF : f_X6_powerOf n gT x0 = some q) (sz : Nat) : Met l yX6_powerOf (ws_ yX6_powerOf cX6_powerOf 7 (some .int)) R_X6_powerOf (PC D (tX6 yT) [.ref hT, .double x0] (wX6 hT aT yT gT) sz) (QI D (va_A (wX6 hT aT yT gT) sz) (wX6 hT aT yT gT) q) 0 0 (va_A (wX6 hT aT yT gT) sz) := by
  refine Met.ofW (cc := cX6_powerOf) (maxL := 7) (ret := (some .int)) (by decide) rfl ?_
  intro p e s m args below meth c s₁ B hml hv
  obtain ⟨rfl, hsz, hP, hK, hD, hN⟩ := hv
  subst hsz
  have C : Cx p s m _ meth c cX6_powerOf (some .int) 7 RX6 lw_all := Cx_of B hml
  have X := Hx_start hP hK hD hN
  obtain ⟨hx, hb, hr, -, hown, hts, hlk⟩ := id C
  generalize va_A (wX6 hT aT yT gT) s.heap.size = A at X ⊢
  have hl := lv_entry ([.ref hT, .double x0]) (n := 7) (Nat.le_of_ble_eq_true rfl)
  rw [lg_entry_eq]
  generalize (lg_sl ([.ref hT, .double x0]) ++ List.replicate (7 - (lg_sl ([.ref hT, .double x0])).length) Slot.unset).toArray = ls at hl ⊢
  have hl : lv_has ls 7 [(0, .ref hT), (1, .double x0)] := hl
  unfold f_X6_powerOf at hF
  refine lv_iconst (v := (0 : Int32)) hx hb dX6_powerOf_0 (by decide) ?_
  refine lv_istore_n (lv' := [(3, .int (0 : Int32)), (0, .ref hT), (1, .double x0)]) hx hb dX6_powerOf_1 rfl hl (by decide) rfl (fun ls hl => ?_)
  refine lv_sipush (v := (2098 : Int32)) hx hb dX6_powerOf_2 (by decide) ?_
  refine lv_istore (lv' := [(4, .int (2098 : Int32)), (3, .int (0 : Int32)), (0, .ref hT), (1, .double x0)]) hx hb dX6_powerOf_5 hl (by decide) rfl (fun ls hl => ?_)
  refine lv_iconst (v := (0 : Int32)) hx hb dX6_powerOf_7 (by decide) ?_
  refine lv_istore (lv' := [(5, .int (0 : Int32)), (4, .int (2098 : Int32)), (3, .int (0 : Int32)), (0, .ref hT), (1, .double x0)]) hx hb dX6_powerOf_8 hl (by decide) rfl (fun ls hl => ?_)
  exact (kL_X6_powerOf l D hT aT yT n n) C X (lv_sub hl [3, 4, 2, 1, 0] rfl) hF

/-! ### X6_packed -/
theorem dX6_packed_0 : decode cX6_packed 0 = .ok (.dload_n 1, 1) := by decide +kernel
theorem dX6_packed_1 : decode cX6_packed 1 = .ok (.invokestatic 27, 3) := by decide +kernel
theorem dX6_packed_4 : decode cX6_packed 4 = .ok (.dstore 5, 2) := by decide +kernel
theorem dX6_packed_6 : decode cX6_packed 6 = .ok (.dload 5, 2) := by decide +kernel
theorem dX6_packed_8 : decode cX6_packed 8 = .ok (.dconst 0, 1) := by decide +kernel
theorem dX6_packed_9 : decode cX6_packed 9 = .ok (.dcmp .l, 1) := by decide +kernel
theorem dX6_packed_10 : decode cX6_packed 10 = .ok (.ifCond .ne 5, 3) := by decide +kernel
theorem dX6_packed_13 : decode cX6_packed 13 = .ok (.lconst 0, 1) := by decide +kernel
theorem dX6_packed_14 : decode cX6_packed 14 = .ok (.lreturn, 1) := by decide +kernel
theorem dX6_packed_15 : decode cX6_packed 15 = .ok (.aload_n 0, 1) := by decide +kernel
theorem dX6_packed_16 : decode cX6_packed 16 = .ok (.dload 5, 2) := by decide +kernel
theorem dX6_packed_18 : decode cX6_packed 18 = .ok (.invokevirtual 48, 3) := by decide +kernel
theorem dX6_packed_21 : decode cX6_packed 21 = .ok (.iconst 1, 1) := by decide +kernel
theorem dX6_packed_22 : decode cX6_packed 22 = .ok (.iload 4, 2) := by decide +kernel
theorem dX6_packed_24 : decode cX6_packed 24 = .ok (.isub, 1) := by decide +kernel
theorem dX6_packed_25 : decode cX6_packed 25 = .ok (.invokestatic 52, 3) := by decide +kernel
theorem dX6_packed_28 : decode cX6_packed 28 = .ok (.istore 7, 2) := by decide +kernel
theorem dX6_packed_30 : decode cX6_packed 30 = .ok (.aload_n 0, 1) := by decide +kernel
theorem dX6_packed_31 : decode cX6_packed 31 = .ok (.dload 5, 2) := by decide +kernel
theorem dX6_packed_33 : decode cX6_packed 33 = .ok (.iload_n 3, 1) := by decide +kernel
theorem dX6_packed_34 : decode cX6_packed 34 = .ok (.iload 7, 2) := by decide +kernel
theorem dX6_packed_36 : decode cX6_packed 36 = .ok (.isub, 1) := by decide +kernel
theorem dX6_packed_37 : decode cX6_packed 37 = .ok (.invokevirtual 58, 3) := by decide +kernel
theorem dX6_packed_40 : decode cX6_packed 40 = .ok (.d2l, 1) := by decide +kernel
theorem dX6_packed_41 : decode cX6_packed 41 = .ok (.lstore 8, 2) := by decide +kernel
theorem dX6_packed_43 : decode cX6_packed 43 = .ok (.iload 7, 2) := by decide +kernel
theorem dX6_packed_45 : decode cX6_packed 45 = .ok (.iload 4, 2) := by decide +kernel
theorem dX6_packed_47 : decode cX6_packed 47 = .ok (.iadd, 1) := by decide +kernel
theorem dX6_packed_48 : decode cX6_packed 48 = .ok (.iconst 1, 1) := by decide +kernel
theorem dX6_packed_49 : decode cX6_packed 49 = .ok (.isub, 1) := by decide +kernel
theorem dX6_packed_50 : decode cX6_packed 50 = .ok (.i2l, 1) := by decide +kernel
theorem dX6_packed_51 : decode cX6_packed 51 = .ok (.iload_n 3, 1) := by decide +kernel
theorem dX6_packed_52 : decode cX6_packed 52 = .ok (.lshl, 1) := by decide +kernel
theorem dX6_packed_53 : decode cX6_packed 53 = .ok (.lload 8, 2) := by decide +kernel
theorem dX6_packed_55 : decode cX6_packed 55 = .ok (.ladd, 1) := by decide +kernel
theorem dX6_packed_56 : decode cX6_packed 56 = .ok (.lreturn, 1) := by decide +kernel
abbrev R_X6_packed : Room := ({ frames := 1, cells := 0, slots := 0, locals := 64 } : Room)
def f_X6_packed (n : Nat) (gT : Gs) (x0 : UInt64) (x1 : Int32) (x2 : Int32) : Option (Int64) :=
  bnd (f_X6_sizeOf x0) (fun q_1 => if (Op.cmpValue (FP.dcmp q_1 FP.dconst0) .l) = 0 then (some (0 : Int64)) else (bnd (f_X6_powerOf n gT q_1) (fun q_3 => bnd (f_X6_scaled gT q_1 (x1 - (if q_3 < ((1 : Int32) - x2) then ((1 : Int32) - x2) else q_3))) (fun q_5 => some ((((((if q_3 < ((1 : Int32) - x2) then ((1 : Int32) - x2) else q_3) + x2) - (1 : Int32)).toInt64) <<< (x1.toInt64 &&& 63)) + (FP.d2l q_5))))))
set_option maxHeartbeats 4000000 in
set_option maxRecDepth 100000 in
theorem c_X6_packed (l : Launch) (D : Dx) (hT : Nat) (aT : Nat → Nat) (yT : Nat → ClassId) (n : Nat) (gT : Gs) (x0 : UInt64) (x1 : Int32) (x2 : Int32) (q : Int64) (hF : f_X6_packed n gT x0 x1 x2 = some q) (sz : Nat) : Met l yX6_packed (ws_ yX6_packed cX6_packed 10 (some .long)) R_X6_packed (PC D (tX6 yT) [.ref hT, .double x0, .int x1, .int x2] (wX6 hT aT yT gT) sz) (QL D (va_A (wX6 hT aT yT gT) sz) (wX6 hT aT yT gT) q) 0 0 (va_A (wX6 hT aT yT gT) sz) := by
  refine Met.ofW (cc := cX6_packed) (maxL := 10) (ret := (some .long)) (by decide) rfl ?_
  intro p e s m args below meth c s₁ B hml hv
  obtain ⟨rfl, hsz, hP, hK, hD, hN⟩ := hv
  subst hsz
  have C : Cx p s m _ meth c cX6_packed (some .long) 10 RX6 lw_all := Cx_of B hml
  have X := Hx_start hP hK hD hN
  obtain ⟨hx, hb, hr, -, hown, hts, hlk⟩ := id C
  generalize va_A (wX6 hT aT yT gT) s.heap.size = A at X ⊢
  have hl := lv_entry ([.ref hT, .double x0, .int x1, .int x2]) (n := 10) (Nat.le_of_ble_eq_true rfl)
  rw [lg_entry_eq]
  generalize (lg_sl ([.ref hT, .double x0, .int x1, .int x2]) ++ List.replicate (10 - (lg_sl ([.ref hT, .double x0, .int x1, .int x2])).length) Slot.unset).toArray = ls at hl ⊢
  have hl : lv_has ls 10 [(0, .ref hT), (1, .double x0), (3, .int x1), (4, .int x2)] := hl
  unfold f_X6_packed at hF
  refine lv_dload_n hx hb dX6_packed_0 rfl (lv_at hl 1 rfl) ?_
  obtain ⟨q_1, hc_2, hF⟩ := bnd_some hF
  refine cS_d (As := [.double x0]) (rest := []) C X (c_X6_sizeOf l D  x0 q_1 hc_2 _) (va_cwS 1 hts (good_S q5_70 q5_71 q1_2 q5_72) rfl rfl rfl (by decide +kernel) ⟨Nat.le_of_ble_eq_true rfl, Nat.le_of_ble_eq_true rfl⟩) (eK X) eP (eD (A := A)) (eF X) hl.1 rfl rfl (Nat.le_of_ble_eq_true rfl) dX6_packed_1 ⟨Nat.le_of_ble_eq_true rfl, Nat.le_of_ble_eq_true rfl⟩ (fun t H1 locs1 ht hB hk hS => ?_)
  have X := Hx_after_none X hk hS
  clear hk hS ht hB
  generalize H1 = H at X ⊢
  generalize locs1 = locs at X ⊢
  refine lv_dstore (lv' := [(5, .double q_1), (0, .ref hT), (1, .double x0), (3, .int x1), (4, .int x2)]) hx hb dX6_packed_4 hl (by decide) rfl (fun ls hl => ?_)
  refine lv_dload hx hb dX6_packed_6 (lv_at hl 0 rfl) ?_
  refine lv_dconst0 hx hb dX6_packed_8 ?_
  refine lv_dcmp hx hb dX6_packed_9 ?_
  refine lv_if_ne (tgt := 15) hx hb dX6_packed_10 (by decide) (fun c => ?_) (fun c => ?_)
  · replace hF := iF c hF
    refine lv_aload_n hx hb dX6_packed_15 rfl (lv_at hl 1 rfl) ?_
    refine lv_dload hx hb dX6_packed_16 (lv_at hl 0 rfl) ?_
    obtain ⟨q_3, hc_4, hF⟩ := bnd_some hF
    refine cV_i (As := [.double q_1]) (rest := []) C X (c_X6_powerOf l D hT aT yT n gT q_1 q_3 hc_4 _) (cwV 1 hts (good_V q5_106 q5_108 q0_55 q1_2 q5_109) rfl rfl rfl (by decide +kernel) ⟨Nat.le_of_ble_eq_true rfl, Nat.le_of_ble_eq_true rfl⟩) (va_recv X.1 X.2.1 (ci := 6) (q0 := 0) rfl rfl) X.1 X.2.1 X.2.2.1 (free_all X) hl.1 rfl rfl (Nat.le_of_ble_eq_true rfl) dX6_packed_18 ⟨Nat.le_of_ble_eq_true rfl, Nat.le_of_ble_eq_true rfl⟩ (fun t H1 locs1 ht hB hk hS => ?_)
    have X : Hx D (tX6 yT) A s H1 locs1 (wX6 hT aT yT gT) := Hx_after_all X ht hB hS
    clear hk hS ht hB
    generalize H1 = H at X ⊢
    generalize locs1 = locs at X ⊢
    refine lv_iconst (v := (1 : Int32)) hx hb dX6_packed_21 (by decide) ?_
    refine lv_iload hx hb dX6_packed_22 (lv_at hl 4 rfl) ?_
    refine lv_isub hx hb dX6_packed_24 ?_
    refine va_mmax hx hb (by rw [hml]; exact hl.1.symm) hown (hts _ q5_110) (hts _ q4_13) (hts _ q1_14) (hts _ q4_14) (Nat.le_of_ble_eq_true rfl) (Nat.le_of_ble_eq_true rfl) (Nat.le_of_ble_eq_true rfl) (Nat.le_of_ble_eq_true rfl) dX6_packed_25 ?_
    refine lv_istore (lv' := [(7, .int (if q_3 < ((1 : Int32) - x2) then ((1 : Int32) - x2) else q_3)), (5, .double q_1), (0, .ref hT), (1, .double x0), (3, .int x1), (4, .int x2)]) hx hb dX6_packed_28 hl (by decide) rfl (fun ls hl => ?_)
    refine lv_aload_n hx hb dX6_packed_30 rfl (lv_at hl 2 rfl) ?_
    refine lv_dload hx hb dX6_packed_31 (lv_at hl 1 rfl) ?_
    refine lv_iload_n hx hb dX6_packed_33 rfl (lv_at hl 4 rfl) ?_
    refine lv_iload hx hb dX6_packed_34 (lv_at hl 0 rfl) ?_
    refine lv_isub hx hb dX6_packed_36 ?_
    obtain ⟨q_5, hc_6, hF⟩ := bnd_some hF
    refine cV_d (As := [.double q_1, .int (x1 - (if q_3 < ((1 : Int32) - x2) then ((1 : Int32) - x2) else q_3))]) (rest := []) C X (c_X6_scaled l D hT aT yT gT q_1 (x1 - (if q_3 < ((1 : Int32) - x2) then ((1 : Int32) - x2) else q_3)) q_5 hc_6 _) (cwV 2 hts (good_V q5_111 q3_212 q3_213 q1_2 q3_214) rfl rfl rfl (by decide +kernel) ⟨Nat.le_of_ble_eq_true rfl, Nat.le_of_ble_eq_true rfl⟩) (va_recv X.1 X.2.1 (ci := 6) (q0 := 0) rfl rfl) X.1 X.2.1 X.2.2.1 (free_all X) hl.1 rfl rfl (Nat.le_of_ble_eq_true rfl) dX6_packed_37 ⟨Nat.le_of_ble_eq_true rfl, Nat.le_of_ble_eq_true rfl⟩ (fun t H1 locs1 ht hB hk hS => ?_)
    have X : Hx D (tX6 yT) A s H1 locs1 (wX6 hT aT yT gT) := Hx_after_all X ht hB hS
    clear hk hS ht hB
    generalize H1 = H at X ⊢
    generalize locs1 = locs at X ⊢
    refine lv_d2l hx hb dX6_packed_40 ?_
    refine lv_lstore (lv' := [(8, .long (FP.d2l q_5)), (7, .int (if q_3 < ((1 : Int32) - x2) then ((1 : Int32) - x2) else q_3)), (5, .double q_1), (0, .ref hT), (1, .double x0), (3, .int x1), (4, .int x2)]) hx hb dX6_packed_41 hl (by decide) rfl (fun ls hl => ?_)
    refine lv_iload hx hb dX6_packed_43 (lv_at hl 1 rfl) ?_
    refine lv_iload hx hb dX6_packed_45 (lv_at hl 6 rfl) ?_
    refine lv_iadd hx hb dX6_packed_47 ?_
    refine lv_iconst (v := (1 : Int32)) hx hb dX6_packed_48 (by decide) ?_
    refine lv_isub hx hb dX6_packed_49 ?_
    refine lv_i2l hx hb dX6_packed_50 rfl ?_
    refine lv_iload_n hx hb dX6_packed_51 rfl (lv_at hl 5 rfl) ?_
    refine lv_lshl hx hb dX6_packed_52 rfl ?_
    refine lv_lload hx hb dX6_packed_53 (lv_at hl 0 rfl) ?_
    refine lv_ladd hx hb dX6_packed_55 ?_
    have hq := Option.some.inj hF
    subst hq
    exact rt_l C X dX6_packed_56
  · replace hF := iT c hF
    refine lv_lconst (v := (0 : Int64)) hx hb dX6_packed_13 (by decide) ?_
    have hq := Option.some.inj hF
    subst hq
    exact rt_l C X dX6_packed_14

/-! ### X6_bits -/
theorem dX6_bits_0 : decode cX6_bits 0 = .ok (.aload_n 0, 1) := by decide +kernel
theorem dX6_bits_1 : decode cX6_bits 1 = .ok (.dload_n 1, 1) := by decide +kernel
theorem dX6_bits_2 : decode cX6_bits 2 = .ok (.bipush 52, 2) := by decide +kernel
theorem dX6_bits_4 : decode cX6_bits 4 = .ok (.sipush 1023, 3) := by decide +kernel
theorem dX6_bits_7 : decode cX6_bits 7 = .ok (.invokevirtual 40, 3) := by decide +kernel
theorem dX6_bits_10 : decode cX6_bits 10 = .ok (.dload_n 1, 1) := by decide +kernel
theorem dX6_bits_11 : decode cX6_bits 11 = .ok (.invokestatic 36, 3) := by decide +kernel
theorem dX6_bits_14 : decode cX6_bits 14 = .ok (.ifCond .eq 9, 3) := by decide +kernel
theorem dX6_bits_17 : decode cX6_bits 17 = .ok (.ldc2_w 44, 3) := by decide +kernel
theorem dX6_bits_20 : decode cX6_bits 20 = .ok (.goto 4, 3) := by decide +kernel
theorem dX6_bits_23 : decode cX6_bits 23 = .ok (.lconst 0, 1) := by decide +kernel
theorem dX6_bits_24 : decode cX6_bits 24 = .ok (.lor, 1) := by decide +kernel
theorem dX6_bits_25 : decode cX6_bits 25 = .ok (.lreturn, 1) := by decide +kernel
abbrev R_X6_bits : Room := ({ frames := 2, cells := 0, slots := 0, locals := 93 } : Room)
def f_X6_bits (n : Nat) (gT : Gs) (x0 : UInt64) : Option (Int64) :=
  bnd (f_X6_packed n gT x0 (52 : Int32) (1023 : Int32)) (fun q_1 => bnd (f_X6_isNegative x0) (fun q_3 => if q_3 = 0 then (some (q_1 ||| (0 : Int64))) else (some (q_1 ||| (-9223372036854775808 : Int64)))))
set_option maxHeartbeats 4000000 in
set_option maxRecDepth 100000 in
theorem c_X6_bits (l : Launch) (D : Dx) (hT : Nat) (aT : Nat → Nat) (yT : Nat → ClassId) (n : Nat) (gT : Gs) (x0 : UInt64) (q : Int64) (hF : f_X6_bits n gT x0 = some q) (sz : Nat) : Met l yX6_bits (ws_ yX6_bits cX6_bits 3 (some .long)) R_X6_bits (PC D (tX6 yT) [.ref hT, .double x0] (wX6 hT aT yT gT) sz) (QL D (va_A (wX6 hT aT yT gT) sz) (wX6 hT aT yT gT) q) 0 0 (va_A (wX6 hT aT yT gT) sz) := by
  refine Met.ofW (cc := cX6_bits) (maxL := 3) (ret := (some .long)) (by decide) rfl ?_
  intro p e s m args below meth c s₁ B hml hv
  obtain ⟨rfl, hsz, hP, hK, hD, hN⟩ := hv
  subst hsz
  have C : Cx p s m _ meth c cX6_bits (some .long) 3 RX6 lw_all := Cx_of B hml
  have X := Hx_start hP hK hD hN
  obtain ⟨hx, hb, hr, -, hown, hts, hlk⟩ := id C
  generalize va_A (wX6 hT aT yT gT) s.heap.size = A at X ⊢
  have hl := lv_entry ([.ref hT, .double x0]) (n := 3) (Nat.le_of_ble_eq_true rfl)
  rw [lg_entry_eq]
  generalize (lg_sl ([.ref hT, .double x0]) ++ List.replicate (3 - (lg_sl ([.ref hT, .double x0])).length) Slot.unset).toArray = ls at hl ⊢
  have hl : lv_has ls 3 [(0, .ref hT), (1, .double x0)] := hl
  unfold f_X6_bits at hF
  refine lv_aload_n hx hb dX6_bits_0 rfl (lv_at hl 0 rfl) ?_
  refine lv_dload_n hx hb dX6_bits_1 rfl (lv_at hl 1 rfl) ?_
  refine lv_bipush (v := (52 : Int32)) hx hb dX6_bits_2 (by decide) ?_
  refine lv_sipush (v := (1023 : Int32)) hx hb dX6_bits_4 (by decide) ?_
  obtain ⟨q_1, hc_2, hF⟩ := bnd_some hF
  refine cV_l (As := [.double x0, .int (52 : Int32), .int (1023 : Int32)]) (rest := []) C X (c_X6_packed l D hT aT yT n gT x0 (52 : Int32) (1023 : Int32) q_1 hc_2 _) (cwV 3 hts (good_V q5_185 q5_187 q0_60 q1_2 q5_188) rfl rfl rfl (by decide +kernel) ⟨Nat.le_of_ble_eq_true rfl, Nat.le_of_ble_eq_true rfl⟩) (va_recv X.1 X.2.1 (ci := 6) (q0 := 0) rfl rfl) X.1 X.2.1 X.2.2.1 (free_all X) hl.1 rfl rfl (Nat.le_of_ble_eq_true rfl) dX6_bits_7 ⟨Nat.le_of_ble_eq_true rfl, Nat.le_of_ble_eq_true rfl⟩ (fun t H1 locs1 ht hB hk hS => ?_)
  have X : Hx D (tX6 yT) A s H1 locs1 (wX6 hT aT yT gT) := Hx_after_all X ht hB hS
  clear hk hS ht hB
  generalize H1 = H at X ⊢
  generalize locs1 = locs at X ⊢
  refine lv_dload_n hx hb dX6_bits_10 rfl (lv_at hl 1 rfl) ?_
  obtain ⟨q_3, hc_4, hF⟩ := bnd_some hF
  refine cS_i (As := [.double x0]) (rest := [.long q_1]) C X (c_X6_isNegative l D  x0 q_3 hc_4 _) (va_cwS 1 hts (good_S q5_81 q5_82 q1_2 q5_83) rfl rfl rfl (by decide +kernel) ⟨Nat.le_of_ble_eq_true rfl, Nat.le_of_ble_eq_true rfl⟩) (eK X) eP (eD (A := A)) (eF X) hl.1 rfl rfl (Nat.le_of_ble_eq_true rfl) dX6_bits_11 ⟨Nat.le_of_ble_eq_true rfl, Nat.le_of_ble_eq_true rfl⟩ (fun t H1 locs1 ht hB hk hS => ?_)
  have X := Hx_after_none X hk hS
  clear hk hS ht hB
  generalize H1 = H at X ⊢
  generalize locs1 = locs at X ⊢
  refine lv_if_eq (tgt := 23) hx hb dX6_bits_14 (by decide) (fun c => ?_) (fun c => ?_)
  · replace hF := iT c hF
    refine lv_lconst (v := (0 : Int64)) hx hb dX6_bits_23 (by decide) ?_
    refine lv_lor hx hb dX6_bits_24 ?_
    have hq := Option.some.inj hF
    subst hq
    exact rt_l C X dX6_bits_25
  · replace hF := iF c hF
    refine lv_ldc2 hx hb hown (hts _ q5_189) dX6_bits_17 ?_
    refine lv_goto (tgt := 24) hx hb dX6_bits_20 (by decide) ?_
    refine lv_lor hx hb dX6_bits_24 ?_
    have hq := Option.some.inj hF
    subst hq
    exact rt_l C X dX6_bits_25

/-! ### X6_floatBits -/
theorem dX6_floatBits_0 : decode cX6_floatBits 0 = .ok (.aload_n 0, 1) := by decide +kernel
theorem dX6_floatBits_1 : decode cX6_floatBits 1 = .ok (.dload_n 1, 1) := by decide +kernel
theorem dX6_floatBits_2 : decode cX6_floatBits 2 = .ok (.bipush 23, 2) := by decide +kernel
theorem dX6_floatBits_4 : decode cX6_floatBits 4 = .ok (.bipush 127, 2) := by decide +kernel
theorem dX6_floatBits_6 : decode cX6_floatBits 6 = .ok (.invokevirtual 40, 3) := by decide +kernel
theorem dX6_floatBits_9 : decode cX6_floatBits 9 = .ok (.dload_n 1, 1) := by decide +kernel
theorem dX6_floatBits_10 : decode cX6_floatBits 10 = .ok (.invokestatic 36, 3) := by decide +kernel
theorem dX6_floatBits_13 : decode cX6_floatBits 13 = .ok (.ifCond .eq 9, 3) := by decide +kernel
theorem dX6_floatBits_16 : decode cX6_floatBits 16 = .ok (.ldc2_w 46, 3) := by decide +kernel
theorem dX6_floatBits_19 : decode cX6_floatBits 19 = .ok (.goto 4, 3) := by decide +kernel
theorem dX6_floatBits_22 : decode cX6_floatBits 22 = .ok (.lconst 0, 1) := by decide +kernel
theorem dX6_floatBits_23 : decode cX6_floatBits 23 = .ok (.lor, 1) := by decide +kernel
theorem dX6_floatBits_24 : decode cX6_floatBits 24 = .ok (.l2i, 1) := by decide +kernel
theorem dX6_floatBits_25 : decode cX6_floatBits 25 = .ok (.i2l, 1) := by decide +kernel
theorem dX6_floatBits_26 : decode cX6_floatBits 26 = .ok (.lreturn, 1) := by decide +kernel
abbrev R_X6_floatBits : Room := ({ frames := 2, cells := 0, slots := 0, locals := 93 } : Room)
def f_X6_floatBits (n : Nat) (gT : Gs) (x0 : UInt64) : Option (Int64) :=
  bnd (f_X6_packed n gT x0 (23 : Int32) (127 : Int32)) (fun q_1 => bnd (f_X6_isNegative x0) (fun q_3 => if q_3 = 0 then (some (((q_1 ||| (0 : Int64)).toInt32).toInt64)) else (some (((q_1 ||| (2147483648 : Int64)).toInt32).toInt64))))
set_option maxHeartbeats 4000000 in
set_option maxRecDepth 100000 in
theorem c_X6_floatBits (l : Launch) (D : Dx) (hT : Nat) (aT : Nat → Nat) (yT : Nat → ClassId) (n : Nat) (gT : Gs) (x0 : UInt64) (q : Int64) (hF : f_X6_floatBits n gT x0 = some q) (sz : Nat) : Met l yX6_floatBits (ws_ yX6_floatBits cX6_floatBits 3 (some .long)) R_X6_floatBits (PC D (tX6 yT) [.ref hT, .double x0] (wX6 hT aT yT gT) sz) (QL D (va_A (wX6 hT aT yT gT) sz) (wX6 hT aT yT gT) q) 0 0 (va_A (wX6 hT aT yT gT) sz) := by
  refine Met.ofW (cc := cX6_floatBits) (maxL := 3) (ret := (some .long)) (by decide) rfl ?_
  intro p e s m args below meth c s₁ B hml hv
  obtain ⟨rfl, hsz, hP, hK, hD, hN⟩ := hv
  subst hsz
  have C : Cx p s m _ meth c cX6_floatBits (some .long) 3 RX6 lw_all := Cx_of B hml
  have X := Hx_start hP hK hD hN
  obtain ⟨hx, hb, hr, -, hown, hts, hlk⟩ := id C
  generalize va_A (wX6 hT aT yT gT) s.heap.size = A at X ⊢
  have hl := lv_entry ([.ref hT, .double x0]) (n := 3) (Nat.le_of_ble_eq_true rfl)
  rw [lg_entry_eq]
  generalize (lg_sl ([.ref hT, .double x0]) ++ List.replicate (3 - (lg_sl ([.ref hT, .double x0])).length) Slot.unset).toArray = ls at hl ⊢
  have hl : lv_has ls 3 [(0, .ref hT), (1, .double x0)] := hl
  unfold f_X6_floatBits at hF
  refine lv_aload_n hx hb dX6_floatBits_0 rfl (lv_at hl 0 rfl) ?_
  refine lv_dload_n hx hb dX6_floatBits_1 rfl (lv_at hl 1 rfl) ?_
  refine lv_bipush (v := (23 : Int32)) hx hb dX6_floatBits_2 (by decide) ?_
  refine lv_bipush (v := (127 : Int32)) hx hb dX6_floatBits_4 (by decide) ?_
  obtain ⟨q_1, hc_2, hF⟩ := bnd_some hF
  refine cV_l (As := [.double x0, .int (23 : Int32), .int (127 : Int32)]) (rest := []) C X (c_X6_packed l D hT aT yT n gT x0 (23 : Int32) (127 : Int32) q_1 hc_2 _) (cwV 3 hts (good_V q5_185 q5_187 q0_60 q1_2 q5_188) rfl rfl rfl (by decide +kernel) ⟨Nat.le_of_ble_eq_true rfl, Nat.le_of_ble_eq_true rfl⟩) (va_recv X.1 X.2.1 (ci := 6) (q0 := 0) rfl rfl) X.1 X.2.1 X.2.2.1 (free_all X) hl.1 rfl rfl (Nat.le_of_ble_eq_true rfl) dX6_floatBits_6 ⟨Nat.le_of_ble_eq_true rfl, Nat.le_of_ble_eq_true rfl⟩ (fun t H1 locs1 ht hB hk hS => ?_)
  have X : Hx D (tX6 yT) A s H1 locs1 (wX6 hT aT yT gT) := Hx_after_all X ht hB hS
  clear hk hS ht hB
  generalize H1 = H at X ⊢
  generalize locs1 = locs at X ⊢
  refine lv_dload_n hx hb dX6_floatBits_9 rfl (lv_at hl 1 rfl) ?_
  obtain ⟨q_3, hc_4, hF⟩ := bnd_some hF
  refine cS_i (As := [.double x0]) (rest := [.long q_1]) C X (c_X6_isNegative l D  x0 q_3 hc_4 _) (va_cwS 1 hts (good_S q5_81 q5_82 q1_2 q5_83) rfl rfl rfl (by decide +kernel) ⟨Nat.le_of_ble_eq_true rfl, Nat.le_of_ble_eq_true rfl⟩) (eK X) eP (eD (A := A)) (eF X) hl.1 rfl rfl (Nat.le_of_ble_eq_true rfl) dX6_floatBits_10 ⟨Nat.le_of_ble_eq_true rfl, Nat.le_of_ble_eq_true rfl⟩ (fun t H1 locs1 ht hB hk hS => ?_)
  have X := Hx_after_none X hk hS
  clear hk hS ht hB
  generalize H1 = H at X ⊢
  generalize locs1 = locs at X ⊢
  refine lv_if_eq (tgt := 22) hx hb dX6_floatBits_13 (by decide) (fun c => ?_) (fun c => ?_)
  · replace hF := iT c hF
    refine lv_lconst (v := (0 : Int64)) hx hb dX6_floatBits_22 (by decide) ?_
    refine lv_lor hx hb dX6_floatBits_23 ?_
    refine lv_l2i hx hb dX6_floatBits_24 rfl ?_
    refine lv_i2l hx hb dX6_floatBits_25 rfl ?_
    have hq := Option.some.inj hF
    subst hq
    exact rt_l C X dX6_floatBits_26
  · replace hF := iF c hF
    refine lv_ldc2 hx hb hown (hts _ q5_194) dX6_floatBits_16 ?_
    refine lv_goto (tgt := 23) hx hb dX6_floatBits_19 (by decide) ?_
    refine lv_lor hx hb dX6_floatBits_23 ?_
    refine lv_l2i hx hb dX6_floatBits_24 rfl ?_
    refine lv_i2l hx hb dX6_floatBits_25 rfl ?_
    have hq := Option.some.inj hF
    subst hq
    exact rt_l C X dX6_floatBits_26

/-! ### X6_bitsOf -/
theorem dX6_bitsOf_0 : decode cX6_bitsOf 0 = .ok (.iload_n 1, 1) := by decide +kernel
theorem dX6_bitsOf_1 : decode cX6_bitsOf 1 = .ok (.bipush 7, 2) := by decide +kernel
theorem dX6_bitsOf_3 : decode cX6_bitsOf 3 = .ok (.if_icmp .ne 10, 3) := by decide +kernel
theorem dX6_bitsOf_6 : decode cX6_bitsOf 6 = .ok (.aload_n 0, 1) := by decide +kernel
theorem dX6_bitsOf_7 : decode cX6_bitsOf 7 = .ok (.dload 4, 2) := by decide +kernel
theorem dX6_bitsOf_9 : decode cX6_bitsOf 9 = .ok (.invokevirtual 62, 3) := by decide +kernel
theorem dX6_bitsOf_12 : decode cX6_bitsOf 12 = .ok (.lreturn, 1) := by decide +kernel
theorem dX6_bitsOf_13 : decode cX6_bitsOf 13 = .ok (.iload_n 1, 1) := by decide +kernel
theorem dX6_bitsOf_14 : decode cX6_bitsOf 14 = .ok (.bipush 6, 2) := by decide +kernel
theorem dX6_bitsOf_16 : decode cX6_bitsOf 16 = .ok (.if_icmp .ne 12, 3) := by decide +kernel
theorem dX6_bitsOf_19 : decode cX6_bitsOf 19 = .ok (.aload_n 0, 1) := by decide +kernel
theorem dX6_bitsOf_20 : decode cX6_bitsOf 20 = .ok (.dload 4, 2) := by decide +kernel
theorem dX6_bitsOf_22 : decode cX6_bitsOf 22 = .ok (.invokevirtual 66, 3) := by decide +kernel
theorem dX6_bitsOf_25 : decode cX6_bitsOf 25 = .ok (.goto 4, 3) := by decide +kernel
theorem dX6_bitsOf_28 : decode cX6_bitsOf 28 = .ok (.lload_n 2, 1) := by decide +kernel
theorem dX6_bitsOf_29 : decode cX6_bitsOf 29 = .ok (.lreturn, 1) := by decide +kernel
abbrev R_X6_bitsOf : Room := ({ frames := 3, cells := 0, slots := 0, locals := 115 } : Room)
def f_X6_bitsOf (n : Nat) (gT : Gs) (x0 : Int32) (x1 : Int64) (x2 : UInt64) : Option (Int64) :=
  if x0 = (7 : Int32) then (bnd (f_X6_bits n gT x2) (fun q_3 => some q_3)) else (if x0 = (6 : Int32) then (bnd (f_X6_floatBits n gT x2) (fun q_1 => some q_1)) else (some x1))
set_option maxHeartbeats 4000000 in
set_option maxRecDepth 100000 in
theorem c_X6_bitsOf (l : Launch) (D : Dx) (hT : Nat) (aT : Nat → Nat) (yT : Nat → ClassId) (n : Nat) (gT : Gs) (x0 : Int32) (x1 : Int64) (x2 : UInt64) (q : Int64) (hF : f_X6_bitsOf n gT x0 x1 x2 = some q) (sz : Nat) : Met l yX6_bitsOf (ws_ yX6_bitsOf cX6_bitsOf 6 (some .long)) R_X6_bitsOf (PC D (tX6 yT) [.ref hT, .int x0, .long x1, .double x2] (wX6 hT aT yT gT) sz) (QL D (va_A (wX6 hT aT yT gT) sz) (wX6 hT aT yT gT) q) 0 0 (va_A (wX6 hT aT yT gT) sz) := by
  refine Met.ofW (cc := cX6_bitsOf) (maxL := 6) (ret := (some .long)) (by decide) rfl ?_
  intro p e s m args below meth c s₁ B hml hv
  obtain ⟨rfl, hsz, hP, hK, hD, hN⟩ := hv
  subst hsz
  have C : Cx p s m _ meth c cX6_bitsOf (some .long) 6 RX6 lw_all := Cx_of B hml
  have X := Hx_start hP hK hD hN
  obtain ⟨hx, hb, hr, -, hown, hts, hlk⟩ := id C
  generalize va_A (wX6 hT aT yT gT) s.heap.size = A at X ⊢
  have hl := lv_entry ([.ref hT, .int x0, .long x1, .double x2]) (n := 6) (Nat.le_of_ble_eq_true rfl)
  rw [lg_entry_eq]
  generalize (lg_sl ([.ref hT, .int x0, .long x1, .double x2]) ++ List.replicate (6 - (lg_sl ([.ref hT, .int x0, .long x1, .double x2])).length) Slot.unset).toArray = ls at hl ⊢
  have hl : lv_has ls 6 [(0, .ref hT), (1, .int x0), (2, .long x1), (4, .double x2)] := hl
  unfold f_X6_bitsOf at hF
  refine lv_iload_n hx hb dX6_bitsOf_0 rfl (lv_at hl 1 rfl) ?_
  refine lv_bipush (v := (7 : Int32)) hx hb dX6_bitsOf_1 (by decide) ?_
  refine lv_icmp_ne (tgt := 13) hx hb dX6_bitsOf_3 (by decide) (fun c => ?_) (fun c => ?_)
  · replace hF := iF c hF
    refine lv_iload_n hx hb dX6_bitsOf_13 rfl (lv_at hl 1 rfl) ?_
    refine lv_bipush (v := (6 : Int32)) hx hb dX6_bitsOf_14 (by decide) ?_
    refine lv_icmp_ne (tgt := 28) hx hb dX6_bitsOf_16 (by decide) (fun c => ?_) (fun c => ?_)
    · replace hF := iF c hF
      refine lv_lload_n hx hb dX6_bitsOf_28 rfl (lv_at hl 2 rfl) ?_
      have hq := Option.some.inj hF
      subst hq
      exact rt_l C X dX6_bitsOf_29
    · replace hF := iT c hF
      refine lv_aload_n hx hb dX6_bitsOf_19 rfl (lv_at hl 0 rfl) ?_
      refine lv_dload hx hb dX6_bitsOf_20 (lv_at hl 3 rfl) ?_
      obtain ⟨q_1, hc_2, hF⟩ := bnd_some hF
      refine cV_l (As := [.double x2]) (rest := []) C X (c_X6_floatBits l D hT aT yT n gT x2 q_1 hc_2 _) (cwV 1 hts (good_V q5_190 q5_191 q5_192 q1_2 q5_193) rfl rfl rfl (by decide +kernel) ⟨Nat.le_of_ble_eq_true rfl, Nat.le_of_ble_eq_true rfl⟩) (va_recv X.1 X.2.1 (ci := 6) (q0 := 0) rfl rfl) X.1 X.2.1 X.2.2.1 (free_all X) hl.1 rfl rfl (Nat.le_of_ble_eq_true rfl) dX6_bitsOf_22 ⟨Nat.le_of_ble_eq_true rfl, Nat.le_of_ble_eq_true rfl⟩ (fun t H1 locs1 ht hB hk hS => ?_)
      have X : Hx D (tX6 yT) A s H1 locs1 (wX6 hT aT yT gT) := Hx_after_all X ht hB hS
      clear hk hS ht hB
      generalize H1 = H at X ⊢
      generalize locs1 = locs at X ⊢
      refine lv_goto (tgt := 29) hx hb dX6_bitsOf_25 (by decide) ?_
      have hq := Option.some.inj hF
      subst hq
      exact rt_l C X dX6_bitsOf_29
  · replace hF := iT c hF
    refine lv_aload_n hx hb dX6_bitsOf_6 rfl (lv_at hl 0 rfl) ?_
    refine lv_dload hx hb dX6_bitsOf_7 (lv_at hl 3 rfl) ?_
    obtain ⟨q_3, hc_4, hF⟩ := bnd_some hF
    refine cV_l (As := [.double x2]) (rest := []) C X (c_X6_bits l D hT aT yT n gT x2 q_3 hc_4 _) (cwV 1 hts (good_V q5_181 q5_182 q5_183 q1_2 q5_184) rfl rfl rfl (by decide +kernel) ⟨Nat.le_of_ble_eq_true rfl, Nat.le_of_ble_eq_true rfl⟩) (va_recv X.1 X.2.1 (ci := 6) (q0 := 0) rfl rfl) X.1 X.2.1 X.2.2.1 (free_all X) hl.1 rfl rfl (Nat.le_of_ble_eq_true rfl) dX6_bitsOf_9 ⟨Nat.le_of_ble_eq_true rfl, Nat.le_of_ble_eq_true rfl⟩ (fun t H1 locs1 ht hB hk hS => ?_)
    have X : Hx D (tX6 yT) A s H1 locs1 (wX6 hT aT yT gT) := Hx_after_all X ht hB hS
    clear hk hS ht hB
    generalize H1 = H at X ⊢
    generalize locs1 = locs at X ⊢
    have hq := Option.some.inj hF
    subst hq
    exact rt_l C X dX6_bitsOf_12

/-! ### X6_unpacked -/
theorem dX6_unpacked_0 : decode cX6_unpacked 0 = .ok (.iload_n 3, 1) := by decide +kernel
theorem dX6_unpacked_1 : decode cX6_unpacked 1 = .ok (.ifCond .ne 7, 3) := by decide +kernel
theorem dX6_unpacked_4 : decode cX6_unpacked 4 = .ok (.lload_n 1, 1) := by decide +kernel
theorem dX6_unpacked_5 : decode cX6_unpacked 5 = .ok (.goto 9, 3) := by decide +kernel
theorem dX6_unpacked_8 : decode cX6_unpacked 8 = .ok (.lload_n 1, 1) := by decide +kernel
theorem dX6_unpacked_9 : decode cX6_unpacked 9 = .ok (.lconst 1, 1) := by decide +kernel
theorem dX6_unpacked_10 : decode cX6_unpacked 10 = .ok (.iload 4, 2) := by decide +kernel
theorem dX6_unpacked_12 : decode cX6_unpacked 12 = .ok (.lshl, 1) := by decide +kernel
theorem dX6_unpacked_13 : decode cX6_unpacked 13 = .ok (.ladd, 1) := by decide +kernel
theorem dX6_unpacked_14 : decode cX6_unpacked 14 = .ok (.lstore 6, 2) := by decide +kernel
theorem dX6_unpacked_16 : decode cX6_unpacked 16 = .ok (.aload_n 0, 1) := by decide +kernel
theorem dX6_unpacked_17 : decode cX6_unpacked 17 = .ok (.lload 6, 2) := by decide +kernel
theorem dX6_unpacked_19 : decode cX6_unpacked 19 = .ok (.l2d, 1) := by decide +kernel
theorem dX6_unpacked_20 : decode cX6_unpacked 20 = .ok (.iload_n 3, 1) := by decide +kernel
theorem dX6_unpacked_21 : decode cX6_unpacked 21 = .ok (.iconst 1, 1) := by decide +kernel
theorem dX6_unpacked_22 : decode cX6_unpacked 22 = .ok (.invokestatic 52, 3) := by decide +kernel
theorem dX6_unpacked_25 : decode cX6_unpacked 25 = .ok (.iload 5, 2) := by decide +kernel
theorem dX6_unpacked_27 : decode cX6_unpacked 27 = .ok (.isub, 1) := by decide +kernel
theorem dX6_unpacked_28 : decode cX6_unpacked 28 = .ok (.iload 4, 2) := by decide +kernel
theorem dX6_unpacked_30 : decode cX6_unpacked 30 = .ok (.isub, 1) := by decide +kernel
theorem dX6_unpacked_31 : decode cX6_unpacked 31 = .ok (.invokevirtual 58, 3) := by decide +kernel
theorem dX6_unpacked_34 : decode cX6_unpacked 34 = .ok (.dreturn, 1) := by decide +kernel
abbrev R_X6_unpacked : Room := ({ frames := 1, cells := 0, slots := 0, locals := 64 } : Room)
def b_X6_unpacked_14 (gT : Gs) (v3 : Int32) (v4 : Int32) (v5 : Int32) (s0 : Int64) : Option (UInt64) :=
  bnd (f_X6_scaled gT (FP.l2d s0) (((if v3 < (1 : Int32) then (1 : Int32) else v3) - v5) - v4)) (fun q_1 => some q_1)
def f_X6_unpacked (gT : Gs) (x0 : Int64) (x1 : Int32) (x2 : Int32) (x3 : Int32) : Option (UInt64) :=
  if x1 = 0 then (b_X6_unpacked_14 gT x1 x2 x3 x0) else (b_X6_unpacked_14 gT x1 x2 x3 (x0 + ((1 : Int64) <<< (x2.toInt64 &&& 63))))
def S_X6_unpacked_14 (l : Launch) (D : Dx) (hT : Nat) (aT : Nat → Nat) (yT : Nat → ClassId) (fn : Gs → Int32 → Int32 → Int32 → Int64 → Option (UInt64)) : Prop :=
  ∀ {p : Program} {e : Env} {s : State} {m : MethodId} {args : Array Value} {below : List Frame} {meth : Method} {c : Code} {H : Heap} {locs : List Loc} {A : Nat → Prop} {ls : Array Slot} {gT : Gs} {v3 : Int32} {v4 : Int32} {v5 : Int32} {s0 : Int64} {q : UInt64}, Cx p s m args meth c cX6_unpacked (some .double) 8 RX6 lw_all → Hx D (tX6 yT) A s H locs (wX6 hT aT yT gT) → lv_has ls 8 [(0, .ref hT), (3, .int v3), (4, .int v4), (5, .int v5)] → fn gT v3 v4 v5 s0 = some q → W p l e R_X6_unpacked s m args below meth c H locs 0 0 (MQ below (QD D A (wX6 hT aT yT gT) q) args s 0 0 A) (F0 m 14 ls [.long s0])
set_option maxHeartbeats 4000000 in
set_option maxRecDepth 100000 in
theorem k_X6_unpacked_14 (l : Launch) (D : Dx) (hT : Nat) (aT : Nat → Nat) (yT : Nat → ClassId) : S_X6_unpacked_14 l D hT aT yT (b_X6_unpacked_14) := by
  intro p e s m args below meth c H locs A ls gT v3 v4 v5 s0 q C X hl hF
  obtain ⟨hx, hb, hr, hml, hown, hts, hlk⟩ := id C
  unfold b_X6_unpacked_14 at hF
  refine lv_lstore (lv' := [(6, .long s0), (0, .ref hT), (3, .int v3), (4, .int v4), (5, .int v5)]) hx hb dX6_unpacked_14 hl (by decide) rfl (fun ls hl => ?_)
  refine lv_aload_n hx hb dX6_unpacked_16 rfl (lv_at hl 1 rfl) ?_
  refine lv_lload hx hb dX6_unpacked_17 (lv_at hl 0 rfl) ?_
  refine lv_l2d hx hb dX6_unpacked_19 ?_
  refine lv_iload_n hx hb dX6_unpacked_20 rfl (lv_at hl 2 rfl) ?_
  refine lv_iconst (v := (1 : Int32)) hx hb dX6_unpacked_21 (by decide) ?_
  refine va_mmax hx hb (by rw [hml]; exact hl.1.symm) hown (hts _ q5_110) (hts _ q4_13) (hts _ q1_14) (hts _ q4_14) (Nat.le_of_ble_eq_true rfl) (Nat.le_of_ble_eq_true rfl) (Nat.le_of_ble_eq_true rfl) (Nat.le_of_ble_eq_true rfl) dX6_unpacked_22 ?_
  refine lv_iload hx hb dX6_unpacked_25 (lv_at hl 4 rfl) ?_
  refine lv_isub hx hb dX6_unpacked_27 ?_
  refine lv_iload hx hb dX6_unpacked_28 (lv_at hl 3 rfl) ?_
  refine lv_isub hx hb dX6_unpacked_30 ?_
  obtain ⟨q_1, hc_2, hF⟩ := bnd_some hF
  refine cV_d (As := [.double (FP.l2d s0), .int (((if v3 < (1 : Int32) then (1 : Int32) else v3) - v5) - v4)]) (rest := []) C X (c_X6_scaled l D hT aT yT gT (FP.l2d s0) (((if v3 < (1 : Int32) then (1 : Int32) else v3) - v5) - v4) q_1 hc_2 _) (cwV 2 hts (good_V q5_111 q3_212 q3_213 q1_2 q3_214) rfl rfl rfl (by decide +kernel) ⟨Nat.le_of_ble_eq_true rfl, Nat.le_of_ble_eq_true rfl⟩) (va_recv X.1 X.2.1 (ci := 6) (q0 := 0) rfl rfl) X.1 X.2.1 X.2.2.1 (free_all X) hl.1 rfl rfl (Nat.le_of_ble_eq_true rfl) dX6_unpacked_31 ⟨Nat.le_of_ble_eq_true rfl, Nat.le_of_ble_eq_true rfl⟩ (fun t H1 locs1 ht hB hk hS => ?_)
  have X : Hx D (tX6 yT) A s H1 locs1 (wX6 hT aT yT gT) := Hx_after_all X ht hB hS
  clear hk hS ht hB
  generalize H1 = H at X ⊢
  generalize locs1 = locs at X ⊢
  have hq := Option.some.inj hF
  subst hq
  exact rt_d C X dX6_unpacked_34
set_option maxHeartbeats 4000000 in
set_option maxRecDepth 100000 in
theorem c_X6_unpacked (l : Launch) (D : Dx) (hT : Nat) (aT : Nat → Nat) (yT : Nat → ClassId) (gT : Gs) (x0 : Int64) (x1 : Int32) (x2 : Int32) (x3 : Int32) (q : UInt64) (hF : f_X6_unpacked gT x0 x1 x2 x3 = some q) (sz : Nat) : Met l yX6_unpacked (ws_ yX6_unpacked cX6_unpacked 8 (some .double)) R_X6_unpacked (PC D (tX6 yT) [.ref hT, .long x0, .int x1, .int x2, .int x3] (wX6 hT aT yT gT) sz) (QD D (va_A (wX6 hT aT yT gT) sz) (wX6 hT aT yT gT) q) 0 0 (va_A (wX6 hT aT yT gT) sz) := by
  refine Met.ofW (cc := cX6_unpacked) (maxL := 8) (ret := (some .double)) (by decide) rfl ?_
  intro p e s m args below meth c s₁ B hml hv
  obtain ⟨rfl, hsz, hP, hK, hD, hN⟩ := hv
  subst hsz
  have C : Cx p s m _ meth c cX6_unpacked (some .double) 8 RX6 lw_all := Cx_of B hml
  have X := Hx_start hP hK hD hN
  obtain ⟨hx, hb, hr, -, hown, hts, hlk⟩ := id C
  generalize va_A (wX6 hT aT yT gT) s.heap.size = A at X ⊢
  have hl := lv_entry ([.ref hT, .long x0, .int x1, .int x2, .int x3]) (n := 8) (Nat.le_of_ble_eq_true rfl)
  rw [lg_entry_eq]
  generalize (lg_sl ([.ref hT, .long x0, .int x1, .int x2, .int x3]) ++ List.replicate (8 - (lg_sl ([.ref hT, .long x0, .int x1, .int x2, .int x3])).length) Slot.unset).toArray = ls at hl ⊢
  have hl : lv_has ls 8 [(0, .ref hT), (1, .long x0), (3, .int x1), (4, .int x2), (5, .int x3)] := hl
  unfold f_X6_unpacked at hF
  refine lv_iload_n hx hb dX6_unpacked_0 rfl (lv_at hl 2 rfl) ?_
  refine lv_if_ne (tgt := 8) hx hb dX6_unpacked_1 (by decide) (fun c => ?_) (fun c => ?_)
  · replace hF := iF c hF
    refine lv_lload_n hx hb dX6_unpacked_8 rfl (lv_at hl 1 rfl) ?_
    refine lv_lconst (v := (1 : Int64)) hx hb dX6_unpacked_9 (by decide) ?_
    refine lv_iload hx hb dX6_unpacked_10 (lv_at hl 3 rfl) ?_
    refine lv_lshl hx hb dX6_unpacked_12 rfl ?_
    refine lv_ladd hx hb dX6_unpacked_13 ?_
    exact (k_X6_unpacked_14 l D hT aT yT) C X (lv_sub hl [0, 2, 3, 4] rfl) hF
  · replace hF := iT c hF
    refine lv_lload_n hx hb dX6_unpacked_4 rfl (lv_at hl 1 rfl) ?_
    refine lv_goto (tgt := 14) hx hb dX6_unpacked_5 (by decide) ?_
    exact (k_X6_unpacked_14 l D hT aT yT) C X (lv_sub hl [0, 2, 3, 4] rfl) hF

/-! ### X6_realOf -/
theorem dX6_realOf_0 : decode cX6_realOf 0 = .ok (.iload_n 1, 1) := by decide +kernel
theorem dX6_realOf_1 : decode cX6_realOf 1 = .ok (.bipush 7, 2) := by decide +kernel
theorem dX6_realOf_3 : decode cX6_realOf 3 = .ok (.if_icmp .ne 43, 3) := by decide +kernel
theorem dX6_realOf_6 : decode cX6_realOf 6 = .ok (.aload_n 0, 1) := by decide +kernel
theorem dX6_realOf_7 : decode cX6_realOf 7 = .ok (.lload_n 2, 1) := by decide +kernel
theorem dX6_realOf_8 : decode cX6_realOf 8 = .ok (.ldc2_w 69, 3) := by decide +kernel
theorem dX6_realOf_11 : decode cX6_realOf 11 = .ok (.land, 1) := by decide +kernel
theorem dX6_realOf_12 : decode cX6_realOf 12 = .ok (.lload_n 2, 1) := by decide +kernel
theorem dX6_realOf_13 : decode cX6_realOf 13 = .ok (.bipush 52, 2) := by decide +kernel
theorem dX6_realOf_15 : decode cX6_realOf 15 = .ok (.lushr, 1) := by decide +kernel
theorem dX6_realOf_16 : decode cX6_realOf 16 = .ok (.ldc2_w 19, 3) := by decide +kernel
theorem dX6_realOf_19 : decode cX6_realOf 19 = .ok (.land, 1) := by decide +kernel
theorem dX6_realOf_20 : decode cX6_realOf 20 = .ok (.l2i, 1) := by decide +kernel
theorem dX6_realOf_21 : decode cX6_realOf 21 = .ok (.bipush 52, 2) := by decide +kernel
theorem dX6_realOf_23 : decode cX6_realOf 23 = .ok (.sipush 1023, 3) := by decide +kernel
theorem dX6_realOf_26 : decode cX6_realOf 26 = .ok (.invokevirtual 71, 3) := by decide +kernel
theorem dX6_realOf_29 : decode cX6_realOf 29 = .ok (.dstore 4, 2) := by decide +kernel
theorem dX6_realOf_31 : decode cX6_realOf 31 = .ok (.lload_n 2, 1) := by decide +kernel
theorem dX6_realOf_32 : decode cX6_realOf 32 = .ok (.lconst 0, 1) := by decide +kernel
theorem dX6_realOf_33 : decode cX6_realOf 33 = .ok (.lcmp, 1) := by decide +kernel
theorem dX6_realOf_34 : decode cX6_realOf 34 = .ok (.ifCond .ge 9, 3) := by decide +kernel
theorem dX6_realOf_37 : decode cX6_realOf 37 = .ok (.dload 4, 2) := by decide +kernel
theorem dX6_realOf_39 : decode cX6_realOf 39 = .ok (.dneg, 1) := by decide +kernel
theorem dX6_realOf_40 : decode cX6_realOf 40 = .ok (.goto 5, 3) := by decide +kernel
theorem dX6_realOf_43 : decode cX6_realOf 43 = .ok (.dload 4, 2) := by decide +kernel
theorem dX6_realOf_45 : decode cX6_realOf 45 = .ok (.dreturn, 1) := by decide +kernel
theorem dX6_realOf_46 : decode cX6_realOf 46 = .ok (.iload_n 1, 1) := by decide +kernel
theorem dX6_realOf_47 : decode cX6_realOf 47 = .ok (.bipush 6, 2) := by decide +kernel
theorem dX6_realOf_49 : decode cX6_realOf 49 = .ok (.if_icmp .ne 41, 3) := by decide +kernel
theorem dX6_realOf_52 : decode cX6_realOf 52 = .ok (.aload_n 0, 1) := by decide +kernel
theorem dX6_realOf_53 : decode cX6_realOf 53 = .ok (.lload_n 2, 1) := by decide +kernel
theorem dX6_realOf_54 : decode cX6_realOf 54 = .ok (.ldc2_w 75, 3) := by decide +kernel
theorem dX6_realOf_57 : decode cX6_realOf 57 = .ok (.land, 1) := by decide +kernel
theorem dX6_realOf_58 : decode cX6_realOf 58 = .ok (.lload_n 2, 1) := by decide +kernel
theorem dX6_realOf_59 : decode cX6_realOf 59 = .ok (.bipush 23, 2) := by decide +kernel
theorem dX6_realOf_61 : decode cX6_realOf 61 = .ok (.lushr, 1) := by decide +kernel
theorem dX6_realOf_62 : decode cX6_realOf 62 = .ok (.ldc2_w 21, 3) := by decide +kernel
theorem dX6_realOf_65 : decode cX6_realOf 65 = .ok (.land, 1) := by decide +kernel
theorem dX6_realOf_66 : decode cX6_realOf 66 = .ok (.l2i, 1) := by decide +kernel
theorem dX6_realOf_67 : decode cX6_realOf 67 = .ok (.bipush 23, 2) := by decide +kernel
theorem dX6_realOf_69 : decode cX6_realOf 69 = .ok (.bipush 127, 2) := by decide +kernel
theorem dX6_realOf_71 : decode cX6_realOf 71 = .ok (.invokevirtual 71, 3) := by decide +kernel
theorem dX6_realOf_74 : decode cX6_realOf 74 = .ok (.dstore 4, 2) := by decide +kernel
theorem dX6_realOf_76 : decode cX6_realOf 76 = .ok (.lload_n 2, 1) := by decide +kernel
theorem dX6_realOf_77 : decode cX6_realOf 77 = .ok (.l2i, 1) := by decide +kernel
theorem dX6_realOf_78 : decode cX6_realOf 78 = .ok (.ifCond .ge 9, 3) := by decide +kernel
theorem dX6_realOf_81 : decode cX6_realOf 81 = .ok (.dload 4, 2) := by decide +kernel
theorem dX6_realOf_83 : decode cX6_realOf 83 = .ok (.dneg, 1) := by decide +kernel
theorem dX6_realOf_84 : decode cX6_realOf 84 = .ok (.goto 5, 3) := by decide +kernel
theorem dX6_realOf_87 : decode cX6_realOf 87 = .ok (.dload 4, 2) := by decide +kernel
theorem dX6_realOf_89 : decode cX6_realOf 89 = .ok (.dreturn, 1) := by decide +kernel
theorem dX6_realOf_90 : decode cX6_realOf 90 = .ok (.dconst 0, 1) := by decide +kernel
theorem dX6_realOf_91 : decode cX6_realOf 91 = .ok (.dreturn, 1) := by decide +kernel
abbrev R_X6_realOf : Room := ({ frames := 2, cells := 0, slots := 0, locals := 91 } : Room)
def f_X6_realOf (gT : Gs) (x0 : Int32) (x1 : Int64) : Option (UInt64) :=
  if x0 = (7 : Int32) then (bnd (f_X6_unpacked gT (x1 &&& (4503599627370495 : Int64)) ((((x1.toUInt64 >>> ((52 : Int32).toInt64.toUInt64 &&& Int64.toUInt64 63)).toInt64) &&& (2047 : Int64)).toInt32) (52 : Int32) (1023 : Int32)) (fun q_3 => if (0 : Int64) ≤ x1 then (some q_3) else (some (FP.dneg q_3)))) else (if x0 = (6 : Int32) then (bnd (f_X6_unpacked gT (x1 &&& (8388607 : Int64)) ((((x1.toUInt64 >>> ((23 : Int32).toInt64.toUInt64 &&& Int64.toUInt64 63)).toInt64) &&& (255 : Int64)).toInt32) (23 : Int32) (127 : Int32)) (fun q_1 => if 0 ≤ x1.toInt32 then (some q_1) else (some (FP.dneg q_1)))) else (some FP.dconst0))
set_option maxHeartbeats 4000000 in
set_option maxRecDepth 100000 in
theorem c_X6_realOf (l : Launch) (D : Dx) (hT : Nat) (aT : Nat → Nat) (yT : Nat → ClassId) (gT : Gs) (x0 : Int32) (x1 : Int64) (q : UInt64) (hF : f_X6_realOf gT x0 x1 = some q) (sz : Nat) : Met l yX6_realOf (ws_ yX6_realOf cX6_realOf 6 (some .double)) R_X6_realOf (PC D (tX6 yT) [.ref hT, .int x0, .long x1] (wX6 hT aT yT gT) sz) (QD D (va_A (wX6 hT aT yT gT) sz) (wX6 hT aT yT gT) q) 0 0 (va_A (wX6 hT aT yT gT) sz) := by
  refine Met.ofW (cc := cX6_realOf) (maxL := 6) (ret := (some .double)) (by decide) rfl ?_
  intro p e s m args below meth c s₁ B hml hv
  obtain ⟨rfl, hsz, hP, hK, hD, hN⟩ := hv
  subst hsz
  have C : Cx p s m _ meth c cX6_realOf (some .double) 6 RX6 lw_all := Cx_of B hml
  have X := Hx_start hP hK hD hN
  obtain ⟨hx, hb, hr, -, hown, hts, hlk⟩ := id C
  generalize va_A (wX6 hT aT yT gT) s.heap.size = A at X ⊢
  have hl := lv_entry ([.ref hT, .int x0, .long x1]) (n := 6) (Nat.le_of_ble_eq_true rfl)
  rw [lg_entry_eq]
  generalize (lg_sl ([.ref hT, .int x0, .long x1]) ++ List.replicate (6 - (lg_sl ([.ref hT, .int x0, .long x1])).length) Slot.unset).toArray = ls at hl ⊢
  have hl : lv_has ls 6 [(0, .ref hT), (1, .int x0), (2, .long x1)] := hl
  unfold f_X6_realOf at hF
  refine lv_iload_n hx hb dX6_realOf_0 rfl (lv_at hl 1 rfl) ?_
  refine lv_bipush (v := (7 : Int32)) hx hb dX6_realOf_1 (by decide) ?_
  refine lv_icmp_ne (tgt := 46) hx hb dX6_realOf_3 (by decide) (fun c => ?_) (fun c => ?_)
  · replace hF := iF c hF
    refine lv_iload_n hx hb dX6_realOf_46 rfl (lv_at hl 1 rfl) ?_
    refine lv_bipush (v := (6 : Int32)) hx hb dX6_realOf_47 (by decide) ?_
    refine lv_icmp_ne (tgt := 90) hx hb dX6_realOf_49 (by decide) (fun c => ?_) (fun c => ?_)
    · replace hF := iF c hF
      refine lv_dconst0 hx hb dX6_realOf_90 ?_
      have hq := Option.some.inj hF
      subst hq
      exact rt_d C X dX6_realOf_91
    · replace hF := iT c hF
      refine lv_aload_n hx hb dX6_realOf_52 rfl (lv_at hl 0 rfl) ?_
      refine lv_lload_n hx hb dX6_realOf_53 rfl (lv_at hl 2 rfl) ?_
      refine lv_ldc2 hx hb hown (hts _ q5_222) dX6_realOf_54 ?_
      refine lv_land hx hb dX6_realOf_57 ?_
      refine lv_lload_n hx hb dX6_realOf_58 rfl (lv_at hl 2 rfl) ?_
      refine lv_bipush (v := (23 : Int32)) hx hb dX6_realOf_59 (by decide) ?_
      refine lv_lushr hx hb dX6_realOf_61 rfl ?_
      refine lv_ldc2 hx hb hown (hts _ q5_211) dX6_realOf_62 ?_
      refine lv_land hx hb dX6_realOf_65 ?_
      refine lv_l2i hx hb dX6_realOf_66 rfl ?_
      refine lv_bipush (v := (23 : Int32)) hx hb dX6_realOf_67 (by decide) ?_
      refine lv_bipush (v := (127 : Int32)) hx hb dX6_realOf_69 (by decide) ?_
      obtain ⟨q_1, hc_2, hF⟩ := bnd_some hF
      refine cV_d (As := [.long (x1 &&& (8388607 : Int64)), .int ((((x1.toUInt64 >>> ((23 : Int32).toInt64.toUInt64 &&& Int64.toUInt64 63)).toInt64) &&& (255 : Int64)).toInt32), .int (23 : Int32), .int (127 : Int32)]) (rest := []) C X (c_X6_unpacked l D hT aT yT gT (x1 &&& (8388607 : Int64)) ((((x1.toUInt64 >>> ((23 : Int32).toInt64.toUInt64 &&& Int64.toUInt64 63)).toInt64) &&& (255 : Int64)).toInt32) (23 : Int32) (127 : Int32) q_1 hc_2 _) (cwV 4 hts (good_V q5_218 q5_220 q0_61 q1_2 q5_221) rfl rfl rfl (by decide +kernel) ⟨Nat.le_of_ble_eq_true rfl, Nat.le_of_ble_eq_true rfl⟩) (va_recv X.1 X.2.1 (ci := 6) (q0 := 0) rfl rfl) X.1 X.2.1 X.2.2.1 (free_all X) hl.1 rfl rfl (Nat.le_of_ble_eq_true rfl) dX6_realOf_71 ⟨Nat.le_of_ble_eq_true rfl, Nat.le_of_ble_eq_true rfl⟩ (fun t H1 locs1 ht hB hk hS => ?_)
      have X : Hx D (tX6 yT) A s H1 locs1 (wX6 hT aT yT gT) := Hx_after_all X ht hB hS
      clear hk hS ht hB
      generalize H1 = H at X ⊢
      generalize locs1 = locs at X ⊢
      refine lv_dstore (lv' := [(4, .double q_1), (0, .ref hT), (1, .int x0), (2, .long x1)]) hx hb dX6_realOf_74 hl (by decide) rfl (fun ls hl => ?_)
      refine lv_lload_n hx hb dX6_realOf_76 rfl (lv_at hl 3 rfl) ?_
      refine lv_l2i hx hb dX6_realOf_77 rfl ?_
      refine lv_if_ge (tgt := 87) hx hb dX6_realOf_78 (by decide) (fun c => ?_) (fun c => ?_)
      · replace hF := iT c hF
        refine lv_dload hx hb dX6_realOf_87 (lv_at hl 0 rfl) ?_
        have hq := Option.some.inj hF
        subst hq
        exact rt_d C X dX6_realOf_89
      · replace hF := iF c hF
        refine lv_dload hx hb dX6_realOf_81 (lv_at hl 0 rfl) ?_
        refine lv_dneg hx hb dX6_realOf_83 ?_
        refine lv_goto (tgt := 89) hx hb dX6_realOf_84 (by decide) ?_
        have hq := Option.some.inj hF
        subst hq
        exact rt_d C X dX6_realOf_89
  · replace hF := iT c hF
    refine lv_aload_n hx hb dX6_realOf_6 rfl (lv_at hl 0 rfl) ?_
    refine lv_lload_n hx hb dX6_realOf_7 rfl (lv_at hl 2 rfl) ?_
    refine lv_ldc2 hx hb hown (hts _ q5_217) dX6_realOf_8 ?_
    refine lv_land hx hb dX6_realOf_11 ?_
    refine lv_lload_n hx hb dX6_realOf_12 rfl (lv_at hl 2 rfl) ?_
    refine lv_bipush (v := (52 : Int32)) hx hb dX6_realOf_13 (by decide) ?_
    refine lv_lushr hx hb dX6_realOf_15 rfl ?_
    refine lv_ldc2 hx hb hown (hts _ q5_207) dX6_realOf_16 ?_
    refine lv_land hx hb dX6_realOf_19 ?_
    refine lv_l2i hx hb dX6_realOf_20 rfl ?_
    refine lv_bipush (v := (52 : Int32)) hx hb dX6_realOf_21 (by decide) ?_
    refine lv_sipush (v := (1023 : Int32)) hx hb dX6_realOf_23 (by decide) ?_
    obtain ⟨q_3, hc_4, hF⟩ := bnd_some hF
    refine cV_d (As := [.long (x1 &&& (4503599627370495 : Int64)), .int ((((x1.toUInt64 >>> ((52 : Int32).toInt64.toUInt64 &&& Int64.toUInt64 63)).toInt64) &&& (2047 : Int64)).toInt32), .int (52 : Int32), .int (1023 : Int32)]) (rest := []) C X (c_X6_unpacked l D hT aT yT gT (x1 &&& (4503599627370495 : Int64)) ((((x1.toUInt64 >>> ((52 : Int32).toInt64.toUInt64 &&& Int64.toUInt64 63)).toInt64) &&& (2047 : Int64)).toInt32) (52 : Int32) (1023 : Int32) q_3 hc_4 _) (cwV 4 hts (good_V q5_218 q5_220 q0_61 q1_2 q5_221) rfl rfl rfl (by decide +kernel) ⟨Nat.le_of_ble_eq_true rfl, Nat.le_of_ble_eq_true rfl⟩) (va_recv X.1 X.2.1 (ci := 6) (q0 := 0) rfl rfl) X.1 X.2.1 X.2.2.1 (free_all X) hl.1 rfl rfl (Nat.le_of_ble_eq_true rfl) dX6_realOf_26 ⟨Nat.le_of_ble_eq_true rfl, Nat.le_of_ble_eq_true rfl⟩ (fun t H1 locs1 ht hB hk hS => ?_)
    have X : Hx D (tX6 yT) A s H1 locs1 (wX6 hT aT yT gT) := Hx_after_all X ht hB hS
    clear hk hS ht hB
    generalize H1 = H at X ⊢
    generalize locs1 = locs at X ⊢
    refine lv_dstore (lv' := [(4, .double q_3), (0, .ref hT), (1, .int x0), (2, .long x1)]) hx hb dX6_realOf_29 hl (by decide) rfl (fun ls hl => ?_)
    refine lv_lload_n hx hb dX6_realOf_31 rfl (lv_at hl 3 rfl) ?_
    refine lv_lconst (v := (0 : Int64)) hx hb dX6_realOf_32 (by decide) ?_
    refine W.lcmp hx hb dX6_realOf_33 ?_
    refine lv_if_ge (tgt := 43) hx hb dX6_realOf_34 (by decide) (fun c => ?_) (fun c => ?_)
    · have c := (lg_cmp_ge _ _).mp c
      replace hF := iT c hF
      refine lv_dload hx hb dX6_realOf_43 (lv_at hl 0 rfl) ?_
      have hq := Option.some.inj hF
      subst hq
      exact rt_d C X dX6_realOf_45
    · have c := fun h => c ((lg_cmp_ge _ _).mpr h)
      replace hF := iF c hF
      refine lv_dload hx hb dX6_realOf_37 (lv_at hl 0 rfl) ?_
      refine lv_dneg hx hb dX6_realOf_39 ?_
      refine lv_goto (tgt := 45) hx hb dX6_realOf_40 (by decide) ?_
      have hq := Option.some.inj hF
      subst hq
      exact rt_d C X dX6_realOf_45

/-! ### X6_wholeOf -/
theorem dX6_wholeOf_0 : decode cX6_wholeOf 0 = .ok (.iload_n 0, 1) := by decide +kernel
theorem dX6_wholeOf_1 : decode cX6_wholeOf 1 = .ok (.tableswitch 58 0 4 #[35, 39, 44, 49, 54], 35) := by decide +kernel
theorem dX6_wholeOf_36 : decode cX6_wholeOf 36 = .ok (.lload_n 1, 1) := by decide +kernel
theorem dX6_wholeOf_37 : decode cX6_wholeOf 37 = .ok (.lconst 1, 1) := by decide +kernel
theorem dX6_wholeOf_38 : decode cX6_wholeOf 38 = .ok (.land, 1) := by decide +kernel
theorem dX6_wholeOf_39 : decode cX6_wholeOf 39 = .ok (.lreturn, 1) := by decide +kernel
theorem dX6_wholeOf_40 : decode cX6_wholeOf 40 = .ok (.lload_n 1, 1) := by decide +kernel
theorem dX6_wholeOf_41 : decode cX6_wholeOf 41 = .ok (.l2i, 1) := by decide +kernel
theorem dX6_wholeOf_42 : decode cX6_wholeOf 42 = .ok (.i2b, 1) := by decide +kernel
theorem dX6_wholeOf_43 : decode cX6_wholeOf 43 = .ok (.i2l, 1) := by decide +kernel
theorem dX6_wholeOf_44 : decode cX6_wholeOf 44 = .ok (.lreturn, 1) := by decide +kernel
theorem dX6_wholeOf_45 : decode cX6_wholeOf 45 = .ok (.lload_n 1, 1) := by decide +kernel
theorem dX6_wholeOf_46 : decode cX6_wholeOf 46 = .ok (.l2i, 1) := by decide +kernel
theorem dX6_wholeOf_47 : decode cX6_wholeOf 47 = .ok (.i2s, 1) := by decide +kernel
theorem dX6_wholeOf_48 : decode cX6_wholeOf 48 = .ok (.i2l, 1) := by decide +kernel
theorem dX6_wholeOf_49 : decode cX6_wholeOf 49 = .ok (.lreturn, 1) := by decide +kernel
theorem dX6_wholeOf_50 : decode cX6_wholeOf 50 = .ok (.lload_n 1, 1) := by decide +kernel
theorem dX6_wholeOf_51 : decode cX6_wholeOf 51 = .ok (.l2i, 1) := by decide +kernel
theorem dX6_wholeOf_52 : decode cX6_wholeOf 52 = .ok (.i2c, 1) := by decide +kernel
theorem dX6_wholeOf_53 : decode cX6_wholeOf 53 = .ok (.i2l, 1) := by decide +kernel
theorem dX6_wholeOf_54 : decode cX6_wholeOf 54 = .ok (.lreturn, 1) := by decide +kernel
theorem dX6_wholeOf_55 : decode cX6_wholeOf 55 = .ok (.lload_n 1, 1) := by decide +kernel
theorem dX6_wholeOf_56 : decode cX6_wholeOf 56 = .ok (.l2i, 1) := by decide +kernel
theorem dX6_wholeOf_57 : decode cX6_wholeOf 57 = .ok (.i2l, 1) := by decide +kernel
theorem dX6_wholeOf_58 : decode cX6_wholeOf 58 = .ok (.lreturn, 1) := by decide +kernel
theorem dX6_wholeOf_59 : decode cX6_wholeOf 59 = .ok (.lload_n 1, 1) := by decide +kernel
theorem dX6_wholeOf_60 : decode cX6_wholeOf 60 = .ok (.lreturn, 1) := by decide +kernel
abbrev R_X6_wholeOf : Room := ({ frames := 0, cells := 0, slots := 0, locals := 0 } : Room)
def f_X6_wholeOf (x0 : Int32) (x1 : Int64) : Option (Int64) :=
  if x0 = (0 : Int32) then (some (x1 &&& (1 : Int64))) else (if x0 = (1 : Int32) then (some x1.toInt32.toInt8.toInt32.toInt64) else (if x0 = (2 : Int32) then (some x1.toInt32.toInt16.toInt32.toInt64) else (if x0 = (3 : Int32) then (some (((x1.toInt32.toUInt32 % 65536).toInt32).toInt64)) else (if x0 = (4 : Int32) then (some x1.toInt32.toInt64) else (some x1)))))
set_option maxHeartbeats 4000000 in
set_option maxRecDepth 100000 in
theorem c_X6_wholeOf (l : Launch) (D : Dx) (x0 : Int32) (x1 : Int64) (q : Int64) (hF : f_X6_wholeOf x0 x1 = some q) (sz : Nat) : Met l yX6_wholeOf (ws_ yX6_wholeOf cX6_wholeOf 3 (some .long)) R_X6_wholeOf (PC D ([]) [.int x0, .long x1] ([]) sz) (QL D (va_A ([]) sz) ([]) q) 0 0 (va_A ([]) sz) := by
  refine Met.ofW (cc := cX6_wholeOf) (maxL := 3) (ret := (some .long)) (by decide) rfl ?_
  intro p e s m args below meth c s₁ B hml hv
  obtain ⟨rfl, hsz, hP, hK, hD, hN⟩ := hv
  subst hsz
  have C : Cx p s m _ meth c cX6_wholeOf (some .long) 3 RX6 lw_all := Cx_of B hml
  have X := Hx_start hP hK hD hN
  obtain ⟨hx, hb, hr, -, hown, hts, hlk⟩ := id C
  generalize va_A ([]) s.heap.size = A at X ⊢
  have hl := lv_entry ([.int x0, .long x1]) (n := 3) (Nat.le_of_ble_eq_true rfl)
  rw [lg_entry_eq]
  generalize (lg_sl ([.int x0, .long x1]) ++ List.replicate (3 - (lg_sl ([.int x0, .long x1])).length) Slot.unset).toArray = ls at hl ⊢
  have hl : lv_has ls 3 [(0, .int x0), (1, .long x1)] := hl
  unfold f_X6_wholeOf at hF
  refine lv_iload_n hx hb dX6_wholeOf_0 rfl (lv_at hl 0 rfl) ?_
  by_cases c0 : x0 = (0 : Int32)
  · replace hF := iT c0 hF
    refine lv_tableIn (tgt := 36) (off := 35) hx hb dX6_wholeOf_1 (by rw [c0]; decide) (by rw [c0]; decide) (by rw [c0]; rfl) (by decide) ?_
    refine lv_lload_n hx hb dX6_wholeOf_36 rfl (lv_at hl 1 rfl) ?_
    refine lv_lconst (v := (1 : Int64)) hx hb dX6_wholeOf_37 (by decide) ?_
    refine lv_land hx hb dX6_wholeOf_38 ?_
    have hq := Option.some.inj hF
    subst hq
    exact rt_l C X dX6_wholeOf_39
  · replace hF := iF c0 hF
    by_cases c1 : x0 = (1 : Int32)
    · replace hF := iT c1 hF
      refine lv_tableIn (tgt := 40) (off := 39) hx hb dX6_wholeOf_1 (by rw [c1]; decide) (by rw [c1]; decide) (by rw [c1]; rfl) (by decide) ?_
      refine lv_lload_n hx hb dX6_wholeOf_40 rfl (lv_at hl 1 rfl) ?_
      refine lv_l2i hx hb dX6_wholeOf_41 rfl ?_
      refine lv_i2b hx hb dX6_wholeOf_42 rfl ?_
      refine lv_i2l hx hb dX6_wholeOf_43 rfl ?_
      have hq := Option.some.inj hF
      subst hq
      exact rt_l C X dX6_wholeOf_44
    · replace hF := iF c1 hF
      by_cases c2 : x0 = (2 : Int32)
      · replace hF := iT c2 hF
        refine lv_tableIn (tgt := 45) (off := 44) hx hb dX6_wholeOf_1 (by rw [c2]; decide) (by rw [c2]; decide) (by rw [c2]; rfl) (by decide) ?_
        refine lv_lload_n hx hb dX6_wholeOf_45 rfl (lv_at hl 1 rfl) ?_
        refine lv_l2i hx hb dX6_wholeOf_46 rfl ?_
        refine lv_i2s hx hb dX6_wholeOf_47 rfl ?_
        refine lv_i2l hx hb dX6_wholeOf_48 rfl ?_
        have hq := Option.some.inj hF
        subst hq
        exact rt_l C X dX6_wholeOf_49
      · replace hF := iF c2 hF
        by_cases c3 : x0 = (3 : Int32)
        · replace hF := iT c3 hF
          refine lv_tableIn (tgt := 50) (off := 49) hx hb dX6_wholeOf_1 (by rw [c3]; decide) (by rw [c3]; decide) (by rw [c3]; rfl) (by decide) ?_
          refine lv_lload_n hx hb dX6_wholeOf_50 rfl (lv_at hl 1 rfl) ?_
          refine lv_l2i hx hb dX6_wholeOf_51 rfl ?_
          refine lv_i2c hx hb dX6_wholeOf_52 rfl ?_
          refine lv_i2l hx hb dX6_wholeOf_53 rfl ?_
          have hq := Option.some.inj hF
          subst hq
          exact rt_l C X dX6_wholeOf_54
        · replace hF := iF c3 hF
          by_cases c4 : x0 = (4 : Int32)
          · replace hF := iT c4 hF
            refine lv_tableIn (tgt := 55) (off := 54) hx hb dX6_wholeOf_1 (by rw [c4]; decide) (by rw [c4]; decide) (by rw [c4]; rfl) (by decide) ?_
            refine lv_lload_n hx hb dX6_wholeOf_55 rfl (lv_at hl 1 rfl) ?_
            refine lv_l2i hx hb dX6_wholeOf_56 rfl ?_
            refine lv_i2l hx hb dX6_wholeOf_57 rfl ?_
            have hq := Option.some.inj hF
            subst hq
            exact rt_l C X dX6_wholeOf_58
          · replace hF := iF c4 hF
            refine lv_tableOut (tgt := 59) hx hb dX6_wholeOf_1 (tbl_out (0) (4) 5 (by decide) ⟨tne c0 (by decide), ⟨tne c1 (by decide), ⟨tne c2 (by decide), ⟨tne c3 (by decide), ⟨tne c4 (by decide), trivial⟩⟩⟩⟩⟩) (by decide) ?_
            refine lv_lload_n hx hb dX6_wholeOf_59 rfl (lv_at hl 1 rfl) ?_
            have hq := Option.some.inj hF
            subst hq
            exact rt_l C X dX6_wholeOf_60

/-! ### X6_remainder -/
theorem dX6_remainder_0 : decode cX6_remainder 0 = .ok (.dload_n 1, 1) := by decide +kernel
theorem dX6_remainder_1 : decode cX6_remainder 1 = .ok (.invokestatic 27, 3) := by decide +kernel
theorem dX6_remainder_4 : decode cX6_remainder 4 = .ok (.dstore 5, 2) := by decide +kernel
theorem dX6_remainder_6 : decode cX6_remainder 6 = .ok (.dload_n 3, 1) := by decide +kernel
theorem dX6_remainder_7 : decode cX6_remainder 7 = .ok (.invokestatic 27, 3) := by decide +kernel
theorem dX6_remainder_10 : decode cX6_remainder 10 = .ok (.dstore 7, 2) := by decide +kernel
theorem dX6_remainder_12 : decode cX6_remainder 12 = .ok (.dload 7, 2) := by decide +kernel
theorem dX6_remainder_14 : decode cX6_remainder 14 = .ok (.dconst 0, 1) := by decide +kernel
theorem dX6_remainder_15 : decode cX6_remainder 15 = .ok (.dcmp .l, 1) := by decide +kernel
theorem dX6_remainder_16 : decode cX6_remainder 16 = .ok (.ifCond .eq 11, 3) := by decide +kernel
theorem dX6_remainder_19 : decode cX6_remainder 19 = .ok (.dload 5, 2) := by decide +kernel
theorem dX6_remainder_21 : decode cX6_remainder 21 = .ok (.dload 7, 2) := by decide +kernel
theorem dX6_remainder_23 : decode cX6_remainder 23 = .ok (.dcmp .g, 1) := by decide +kernel
theorem dX6_remainder_24 : decode cX6_remainder 24 = .ok (.ifCond .ge 5, 3) := by decide +kernel
theorem dX6_remainder_27 : decode cX6_remainder 27 = .ok (.dload_n 1, 1) := by decide +kernel
theorem dX6_remainder_28 : decode cX6_remainder 28 = .ok (.dreturn, 1) := by decide +kernel
theorem dX6_remainder_29 : decode cX6_remainder 29 = .ok (.aload_n 0, 1) := by decide +kernel
theorem dX6_remainder_30 : decode cX6_remainder 30 = .ok (.dload 7, 2) := by decide +kernel
theorem dX6_remainder_32 : decode cX6_remainder 32 = .ok (.invokevirtual 48, 3) := by decide +kernel
theorem dX6_remainder_35 : decode cX6_remainder 35 = .ok (.bipush 52, 2) := by decide +kernel
theorem dX6_remainder_37 : decode cX6_remainder 37 = .ok (.isub, 1) := by decide +kernel
theorem dX6_remainder_38 : decode cX6_remainder 38 = .ok (.sipush (-1074), 3) := by decide +kernel
theorem dX6_remainder_41 : decode cX6_remainder 41 = .ok (.invokestatic 52, 3) := by decide +kernel
theorem dX6_remainder_44 : decode cX6_remainder 44 = .ok (.istore 9, 2) := by decide +kernel
theorem dX6_remainder_46 : decode cX6_remainder 46 = .ok (.aload_n 0, 1) := by decide +kernel
theorem dX6_remainder_47 : decode cX6_remainder 47 = .ok (.dload 5, 2) := by decide +kernel
theorem dX6_remainder_49 : decode cX6_remainder 49 = .ok (.invokevirtual 48, 3) := by decide +kernel
theorem dX6_remainder_52 : decode cX6_remainder 52 = .ok (.bipush 52, 2) := by decide +kernel
theorem dX6_remainder_54 : decode cX6_remainder 54 = .ok (.isub, 1) := by decide +kernel
theorem dX6_remainder_55 : decode cX6_remainder 55 = .ok (.sipush (-1074), 3) := by decide +kernel
theorem dX6_remainder_58 : decode cX6_remainder 58 = .ok (.invokestatic 52, 3) := by decide +kernel
theorem dX6_remainder_61 : decode cX6_remainder 61 = .ok (.istore 10, 2) := by decide +kernel
theorem dX6_remainder_63 : decode cX6_remainder 63 = .ok (.aload_n 0, 1) := by decide +kernel
theorem dX6_remainder_64 : decode cX6_remainder 64 = .ok (.dload 7, 2) := by decide +kernel
theorem dX6_remainder_66 : decode cX6_remainder 66 = .ok (.iload 9, 2) := by decide +kernel
theorem dX6_remainder_68 : decode cX6_remainder 68 = .ok (.ineg, 1) := by decide +kernel
theorem dX6_remainder_69 : decode cX6_remainder 69 = .ok (.invokevirtual 58, 3) := by decide +kernel
theorem dX6_remainder_72 : decode cX6_remainder 72 = .ok (.d2l, 1) := by decide +kernel
theorem dX6_remainder_73 : decode cX6_remainder 73 = .ok (.lstore 11, 2) := by decide +kernel
theorem dX6_remainder_75 : decode cX6_remainder 75 = .ok (.lload 11, 2) := by decide +kernel
theorem dX6_remainder_77 : decode cX6_remainder 77 = .ok (.lconst 0, 1) := by decide +kernel
theorem dX6_remainder_78 : decode cX6_remainder 78 = .ok (.lcmp, 1) := by decide +kernel
theorem dX6_remainder_79 : decode cX6_remainder 79 = .ok (.ifCond .gt 5, 3) := by decide +kernel
theorem dX6_remainder_82 : decode cX6_remainder 82 = .ok (.dload_n 1, 1) := by decide +kernel
theorem dX6_remainder_83 : decode cX6_remainder 83 = .ok (.dreturn, 1) := by decide +kernel
theorem dX6_remainder_84 : decode cX6_remainder 84 = .ok (.aload_n 0, 1) := by decide +kernel
theorem dX6_remainder_85 : decode cX6_remainder 85 = .ok (.dload 5, 2) := by decide +kernel
theorem dX6_remainder_87 : decode cX6_remainder 87 = .ok (.iload 10, 2) := by decide +kernel
theorem dX6_remainder_89 : decode cX6_remainder 89 = .ok (.ineg, 1) := by decide +kernel
theorem dX6_remainder_90 : decode cX6_remainder 90 = .ok (.invokevirtual 58, 3) := by decide +kernel
theorem dX6_remainder_93 : decode cX6_remainder 93 = .ok (.d2l, 1) := by decide +kernel
theorem dX6_remainder_94 : decode cX6_remainder 94 = .ok (.lload 11, 2) := by decide +kernel
theorem dX6_remainder_96 : decode cX6_remainder 96 = .ok (.lrem, 1) := by decide +kernel
theorem dX6_remainder_97 : decode cX6_remainder 97 = .ok (.lstore 13, 2) := by decide +kernel
theorem dX6_remainder_99 : decode cX6_remainder 99 = .ok (.iload 10, 2) := by decide +kernel
theorem dX6_remainder_101 : decode cX6_remainder 101 = .ok (.iload 9, 2) := by decide +kernel
theorem dX6_remainder_103 : decode cX6_remainder 103 = .ok (.isub, 1) := by decide +kernel
theorem dX6_remainder_104 : decode cX6_remainder 104 = .ok (.istore 15, 2) := by decide +kernel
theorem dX6_remainder_106 : decode cX6_remainder 106 = .ok (.iload 15, 2) := by decide +kernel
theorem dX6_remainder_108 : decode cX6_remainder 108 = .ok (.ifCond .le 31, 3) := by decide +kernel
theorem dX6_remainder_111 : decode cX6_remainder 111 = .ok (.lload 13, 2) := by decide +kernel
theorem dX6_remainder_113 : decode cX6_remainder 113 = .ok (.lconst 0, 1) := by decide +kernel
theorem dX6_remainder_114 : decode cX6_remainder 114 = .ok (.lcmp, 1) := by decide +kernel
theorem dX6_remainder_115 : decode cX6_remainder 115 = .ok (.ifCond .eq 24, 3) := by decide +kernel
theorem dX6_remainder_118 : decode cX6_remainder 118 = .ok (.lload 13, 2) := by decide +kernel
theorem dX6_remainder_120 : decode cX6_remainder 120 = .ok (.iload 15, 2) := by decide +kernel
theorem dX6_remainder_122 : decode cX6_remainder 122 = .ok (.bipush 10, 2) := by decide +kernel
theorem dX6_remainder_124 : decode cX6_remainder 124 = .ok (.invokestatic 77, 3) := by decide +kernel
theorem dX6_remainder_127 : decode cX6_remainder 127 = .ok (.lshl, 1) := by decide +kernel
theorem dX6_remainder_128 : decode cX6_remainder 128 = .ok (.lload 11, 2) := by decide +kernel
theorem dX6_remainder_130 : decode cX6_remainder 130 = .ok (.lrem, 1) := by decide +kernel
theorem dX6_remainder_131 : decode cX6_remainder 131 = .ok (.lstore 13, 2) := by decide +kernel
theorem dX6_remainder_133 : decode cX6_remainder 133 = .ok (.iinc 15 (-10), 3) := by decide +kernel
theorem dX6_remainder_136 : decode cX6_remainder 136 = .ok (.goto (-30), 3) := by decide +kernel
theorem dX6_remainder_139 : decode cX6_remainder 139 = .ok (.aload_n 0, 1) := by decide +kernel
theorem dX6_remainder_140 : decode cX6_remainder 140 = .ok (.lload 13, 2) := by decide +kernel
theorem dX6_remainder_142 : decode cX6_remainder 142 = .ok (.l2d, 1) := by decide +kernel
theorem dX6_remainder_143 : decode cX6_remainder 143 = .ok (.iload 9, 2) := by decide +kernel
theorem dX6_remainder_145 : decode cX6_remainder 145 = .ok (.invokevirtual 58, 3) := by decide +kernel
theorem dX6_remainder_148 : decode cX6_remainder 148 = .ok (.dstore 15, 2) := by decide +kernel
theorem dX6_remainder_150 : decode cX6_remainder 150 = .ok (.dload_n 1, 1) := by decide +kernel
theorem dX6_remainder_151 : decode cX6_remainder 151 = .ok (.invokestatic 36, 3) := by decide +kernel
theorem dX6_remainder_154 : decode cX6_remainder 154 = .ok (.ifCond .eq 9, 3) := by decide +kernel
theorem dX6_remainder_157 : decode cX6_remainder 157 = .ok (.dload 15, 2) := by decide +kernel
theorem dX6_remainder_159 : decode cX6_remainder 159 = .ok (.dneg, 1) := by decide +kernel
theorem dX6_remainder_160 : decode cX6_remainder 160 = .ok (.goto 5, 3) := by decide +kernel
theorem dX6_remainder_163 : decode cX6_remainder 163 = .ok (.dload 15, 2) := by decide +kernel
theorem dX6_remainder_165 : decode cX6_remainder 165 = .ok (.dreturn, 1) := by decide +kernel
abbrev R_X6_remainder : Room := ({ frames := 1, cells := 0, slots := 0, locals := 64 } : Room)
def b_X6_remainder_139 (n : Nat) (rec : (Gs → UInt64 → Int32 → Int64 → Int64 → Int32 → Option (UInt64))) (gT : Gs) (v1 : UInt64) (v9 : Int32) (v13 : Int64) : Option (UInt64) :=
  bnd (f_X6_scaled gT (FP.l2d v13) v9) (fun q_14 => bnd (f_X6_isNegative v1) (fun q_16 => if q_16 = 0 then (some q_14) else (some (FP.dneg q_14))))
def h_X6_remainder_106 (n : Nat) (rec : (Gs → UInt64 → Int32 → Int64 → Int64 → Int32 → Option (UInt64))) (gT : Gs) (v1 : UInt64) (v9 : Int32) (v11 : Int64) (v13 : Int64) (v15 : Int32) : Option (UInt64) :=
  if v15 ≤ 0 then (b_X6_remainder_139 n rec gT v1 v9 v13) else (if v13 = (0 : Int64) then (b_X6_remainder_139 n rec gT v1 v9 v13) else (grd (nzL v11) (rec gT v1 v9 v11 ((v13 <<< ((if (10 : Int32) < v15 then (10 : Int32) else v15).toInt64 &&& 63)) - (v13 <<< ((if (10 : Int32) < v15 then (10 : Int32) else v15).toInt64 &&& 63)) / v11 * v11) (v15 + (-10 : Int32)))))
def L_X6_remainder (n : Nat) : Nat → (Gs → UInt64 → Int32 → Int64 → Int64 → Int32 → Option (UInt64))
  | 0 => ((fun _ _ _ _ _ _ => none))
  | k + 1 => (h_X6_remainder_106 n (L_X6_remainder n k))
def f_X6_remainder (n : Nat) (gT : Gs) (x0 : UInt64) (x1 : UInt64) : Option (UInt64) :=
  bnd (f_X6_sizeOf x0) (fun q_1 => bnd (f_X6_sizeOf x1) (fun q_3 => if (Op.cmpValue (FP.dcmp q_3 FP.dconst0) .l) = 0 then (some x0) else (if 0 ≤ (Op.cmpValue (FP.dcmp q_1 q_3) .g) then (bnd (f_X6_powerOf n gT q_3) (fun q_5 => bnd (f_X6_powerOf n gT q_1) (fun q_7 => bnd (f_X6_scaled gT q_3 (-(if (q_5 - (52 : Int32)) < (-1074 : Int32) then (-1074 : Int32) else (q_5 - (52 : Int32))))) (fun q_9 => if (0 : Int64) < (FP.d2l q_9) then (bnd (f_X6_scaled gT q_1 (-(if (q_7 - (52 : Int32)) < (-1074 : Int32) then (-1074 : Int32) else (q_7 - (52 : Int32))))) (fun q_11 => grd (nzL (FP.d2l q_9)) ((L_X6_remainder n n) gT x0 (if (q_5 - (52 : Int32)) < (-1074 : Int32) then (-1074 : Int32) else (q_5 - (52 : Int32))) (FP.d2l q_9) ((FP.d2l q_11) - (FP.d2l q_11) / (FP.d2l q_9) * (FP.d2l q_9)) ((if (q_7 - (52 : Int32)) < (-1074 : Int32) then (-1074 : Int32) else (q_7 - (52 : Int32))) - (if (q_5 - (52 : Int32)) < (-1074 : Int32) then (-1074 : Int32) else (q_5 - (52 : Int32))))))) else (some x0))))) else (some x0))))
def S_X6_remainder_139 (l : Launch) (D : Dx) (hT : Nat) (aT : Nat → Nat) (yT : Nat → ClassId) (fn : Gs → UInt64 → Int32 → Int64 → Option (UInt64)) : Prop :=
  ∀ {p : Program} {e : Env} {s : State} {m : MethodId} {args : Array Value} {below : List Frame} {meth : Method} {c : Code} {H : Heap} {locs : List Loc} {A : Nat → Prop} {ls : Array Slot} {gT : Gs} {v1 : UInt64} {v9 : Int32} {v13 : Int64} {q : UInt64}, Cx p s m args meth c cX6_remainder (some .double) 17 RX6 lw_all → Hx D (tX6 yT) A s H locs (wX6 hT aT yT gT) → lv_has ls 17 [(0, .ref hT), (1, .double v1), (9, .int v9), (13, .long v13)] → fn gT v1 v9 v13 = some q → W p l e R_X6_remainder s m args below meth c H locs 0 0 (MQ below (QD D A (wX6 hT aT yT gT) q) args s 0 0 A) (F0 m 139 ls [])
def S_X6_remainder_106 (l : Launch) (D : Dx) (hT : Nat) (aT : Nat → Nat) (yT : Nat → ClassId) (fn : Gs → UInt64 → Int32 → Int64 → Int64 → Int32 → Option (UInt64)) : Prop :=
  ∀ {p : Program} {e : Env} {s : State} {m : MethodId} {args : Array Value} {below : List Frame} {meth : Method} {c : Code} {H : Heap} {locs : List Loc} {A : Nat → Prop} {ls : Array Slot} {gT : Gs} {v1 : UInt64} {v9 : Int32} {v11 : Int64} {v13 : Int64} {v15 : Int32} {q : UInt64}, Cx p s m args meth c cX6_remainder (some .double) 17 RX6 lw_all → Hx D (tX6 yT) A s H locs (wX6 hT aT yT gT) → lv_has ls 17 [(0, .ref hT), (1, .double v1), (9, .int v9), (11, .long v11), (13, .long v13), (15, .int v15)] → fn gT v1 v9 v11 v13 v15 = some q → W p l e R_X6_remainder s m args below meth c H locs 0 0 (MQ below (QD D A (wX6 hT aT yT gT) q) args s 0 0 A) (F0 m 106 ls [])
def SH_X6_remainder (l : Launch) (D : Dx) (hT : Nat) (aT : Nat → Nat) (yT : Nat → ClassId) (rec : (Gs → UInt64 → Int32 → Int64 → Int64 → Int32 → Option (UInt64))) : Prop := S_X6_remainder_106 l D hT aT yT rec
set_option maxHeartbeats 4000000 in
set_option maxRecDepth 100000 in
theorem k_X6_remainder_139 (l : Launch) (D : Dx) (hT : Nat) (aT : Nat → Nat) (yT : Nat → ClassId) (n : Nat) (rec : (Gs → UInt64 → Int32 → Int64 → Int64 → Int32 → Option (UInt64))) (IH : SH_X6_remainder l D hT aT yT rec) : S_X6_remainder_139 l D hT aT yT (b_X6_remainder_139 n rec) := by
  intro p e s m args below meth c H locs A ls gT v1 v9 v13 q C X hl hF
  obtain ⟨hx, hb, hr, hml, hown, hts, hlk⟩ := id C
  unfold b_X6_remainder_139 at hF
  refine lv_aload_n hx hb dX6_remainder_139 rfl (lv_at hl 0 rfl) ?_
  refine lv_lload hx hb dX6_remainder_140 (lv_at hl 3 rfl) ?_
  refine lv_l2d hx hb dX6_remainder_142 ?_
  refine lv_iload hx hb dX6_remainder_143 (lv_at hl 2 rfl) ?_
  obtain ⟨q_14, hc_15, hF⟩ := bnd_some hF
  refine cV_d (As := [.double (FP.l2d v13), .int v9]) (rest := []) C X (c_X6_scaled l D hT aT yT gT (FP.l2d v13) v9 q_14 hc_15 _) (cwV 2 hts (good_V q5_111 q3_212 q3_213 q1_2 q3_214) rfl rfl rfl (by decide +kernel) ⟨Nat.le_of_ble_eq_true rfl, Nat.le_of_ble_eq_true rfl⟩) (va_recv X.1 X.2.1 (ci := 6) (q0 := 0) rfl rfl) X.1 X.2.1 X.2.2.1 (free_all X) hl.1 rfl rfl (Nat.le_of_ble_eq_true rfl) dX6_remainder_145 ⟨Nat.le_of_ble_eq_true rfl, Nat.le_of_ble_eq_true rfl⟩ (fun t H1 locs1 ht hB hk hS => ?_)
  have X : Hx D (tX6 yT) A s H1 locs1 (wX6 hT aT yT gT) := Hx_after_all X ht hB hS
  clear hk hS ht hB
  generalize H1 = H at X ⊢
  generalize locs1 = locs at X ⊢
  refine lv_dstore (lv' := [(15, .double q_14), (0, .ref hT), (1, .double v1), (9, .int v9), (13, .long v13)]) hx hb dX6_remainder_148 hl (by decide) rfl (fun ls hl => ?_)
  refine lv_dload_n hx hb dX6_remainder_150 rfl (lv_at hl 2 rfl) ?_
  obtain ⟨q_16, hc_17, hF⟩ := bnd_some hF
  refine cS_i (As := [.double v1]) (rest := []) C X (c_X6_isNegative l D  v1 q_16 hc_17 _) (va_cwS 1 hts (good_S q5_81 q5_82 q1_2 q5_83) rfl rfl rfl (by decide +kernel) ⟨Nat.le_of_ble_eq_true rfl, Nat.le_of_ble_eq_true rfl⟩) (eK X) eP (eD (A := A)) (eF X) hl.1 rfl rfl (Nat.le_of_ble_eq_true rfl) dX6_remainder_151 ⟨Nat.le_of_ble_eq_true rfl, Nat.le_of_ble_eq_true rfl⟩ (fun t H1 locs1 ht hB hk hS => ?_)
  have X := Hx_after_none X hk hS
  clear hk hS ht hB
  generalize H1 = H at X ⊢
  generalize locs1 = locs at X ⊢
  refine lv_if_eq (tgt := 163) hx hb dX6_remainder_154 (by decide) (fun c => ?_) (fun c => ?_)
  · replace hF := iT c hF
    refine lv_dload hx hb dX6_remainder_163 (lv_at hl 0 rfl) ?_
    have hq := Option.some.inj hF
    subst hq
    exact rt_d C X dX6_remainder_165
  · replace hF := iF c hF
    refine lv_dload hx hb dX6_remainder_157 (lv_at hl 0 rfl) ?_
    refine lv_dneg hx hb dX6_remainder_159 ?_
    refine lv_goto (tgt := 165) hx hb dX6_remainder_160 (by decide) ?_
    have hq := Option.some.inj hF
    subst hq
    exact rt_d C X dX6_remainder_165
set_option maxHeartbeats 4000000 in
set_option maxRecDepth 100000 in
theorem k_X6_remainder_106 (l : Launch) (D : Dx) (hT : Nat) (aT : Nat → Nat) (yT : Nat → ClassId) (n : Nat) (rec : (Gs → UInt64 → Int32 → Int64 → Int64 → Int32 → Option (UInt64))) (IH : SH_X6_remainder l D hT aT yT rec) : S_X6_remainder_106 l D hT aT yT (h_X6_remainder_106 n rec) := by
  intro p e s m args below meth c H locs A ls gT v1 v9 v11 v13 v15 q C X hl hF
  obtain ⟨hx, hb, hr, hml, hown, hts, hlk⟩ := id C
  unfold h_X6_remainder_106 at hF
  refine lv_iload hx hb dX6_remainder_106 (lv_at hl 5 rfl) ?_
  refine lv_if_le (tgt := 139) hx hb dX6_remainder_108 (by decide) (fun c => ?_) (fun c => ?_)
  · replace hF := iT c hF
    exact (k_X6_remainder_139 l D hT aT yT n rec IH) C X (lv_sub hl [0, 1, 2, 4] rfl) hF
  · replace hF := iF c hF
    refine lv_lload hx hb dX6_remainder_111 (lv_at hl 4 rfl) ?_
    refine lv_lconst (v := (0 : Int64)) hx hb dX6_remainder_113 (by decide) ?_
    refine W.lcmp hx hb dX6_remainder_114 ?_
    refine lv_if_eq (tgt := 139) hx hb dX6_remainder_115 (by decide) (fun c => ?_) (fun c => ?_)
    · have c := (lg_cmp_eq _ _).mp c
      replace hF := iT c hF
      exact (k_X6_remainder_139 l D hT aT yT n rec IH) C X (lv_sub hl [0, 1, 2, 4] rfl) hF
    · have c := fun h => c ((lg_cmp_eq _ _).mpr h)
      replace hF := iF c hF
      refine lv_lload hx hb dX6_remainder_118 (lv_at hl 4 rfl) ?_
      refine lv_iload hx hb dX6_remainder_120 (lv_at hl 5 rfl) ?_
      refine lv_bipush (v := (10 : Int32)) hx hb dX6_remainder_122 (by decide) ?_
      refine va_mmin hx hb (by rw [hml]; exact hl.1.symm) hown (hts _ q5_112) (hts _ q3_128) (hts _ q1_14) (hts _ q3_129) (Nat.le_of_ble_eq_true rfl) (Nat.le_of_ble_eq_true rfl) (Nat.le_of_ble_eq_true rfl) (Nat.le_of_ble_eq_true rfl) dX6_remainder_124 ?_
      refine lv_lshl hx hb dX6_remainder_127 rfl ?_
      refine lv_lload hx hb dX6_remainder_128 (lv_at hl 3 rfl) ?_
      obtain ⟨h_18, hF⟩ := grd_some hF
      refine lv_lrem hx hb dX6_remainder_130 (nzL_ok h_18) ?_
      refine lv_lstore (lv' := [(13, .long ((v13 <<< ((if (10 : Int32) < v15 then (10 : Int32) else v15).toInt64 &&& 63)) - (v13 <<< ((if (10 : Int32) < v15 then (10 : Int32) else v15).toInt64 &&& 63)) / v11 * v11)), (0, .ref hT), (1, .double v1), (9, .int v9), (11, .long v11), (15, .int v15)]) hx hb dX6_remainder_131 hl (by decide) rfl (fun ls hl => ?_)
      refine lv_iinc (v := v15 + (-10 : Int32)) (lv' := [(15, .int (v15 + (-10 : Int32))), (13, .long ((v13 <<< ((if (10 : Int32) < v15 then (10 : Int32) else v15).toInt64 &&& 63)) - (v13 <<< ((if (10 : Int32) < v15 then (10 : Int32) else v15).toInt64 &&& 63)) / v11 * v11)), (0, .ref hT), (1, .double v1), (9, .int v9), (11, .long v11)]) hx hb dX6_remainder_133 hl (k := 5) rfl rfl (by decide) rfl (fun ls hl => ?_)
      refine lv_goto (tgt := 106) hx hb dX6_remainder_136 (by decide) ?_
      exact IH C X (lv_sub hl [2, 3, 4, 5, 1, 0] rfl) hF
theorem kL_X6_remainder (l : Launch) (D : Dx) (hT : Nat) (aT : Nat → Nat) (yT : Nat → ClassId) (n : Nat) : ∀ k, SH_X6_remainder l D hT aT yT (L_X6_remainder n k)
  | 0 => fun _ _ _ h => by cases h
  | k + 1 => k_X6_remainder_106 l D hT aT yT n _ (kL_X6_remainder l D hT aT yT n k)
set_option maxHeartbeats 4000000 in
set_option maxRecDepth 100000 in
theorem c_X6_remainder (l : Launch) (D : Dx) (hT : Nat) (aT : Nat → Nat) (yT : Nat → ClassId) (n : Nat) (gT : Gs) (x0 : UInt64) (x1 : UInt64) (q : UInt64) (hF : f_X6_remainder n gT x0 x1 = some q) (sz : Nat) : Met l yX6_remainder (ws_ yX6_remainder cX6_remainder 17 (some .double)) R_X6_remainder (PC D (tX6 yT) [.ref hT, .double x0, .double x1] (wX6 hT aT yT gT) sz) (QD D (va_A (wX6 hT aT yT gT) sz) (wX6 hT aT yT gT) q) 0 0 (va_A (wX6 hT aT yT gT) sz) := by
  refine Met.ofW (cc := cX6_remainder) (maxL := 17) (ret := (some .double)) (by decide) rfl ?_
  intro p e s m args below meth c s₁ B hml hv
  obtain ⟨rfl, hsz, hP, hK, hD, hN⟩ := hv
  subst hsz
  have C : Cx p s m _ meth c cX6_remainder (some .double) 17 RX6 lw_all := Cx_of B hml
  have X := Hx_start hP hK hD hN
  obtain ⟨hx, hb, hr, -, hown, hts, hlk⟩ := id C
  generalize va_A (wX6 hT aT yT gT) s.heap.size = A at X ⊢
  have hl := lv_entry ([.ref hT, .double x0, .double x1]) (n := 17) (Nat.le_of_ble_eq_true rfl)
  rw [lg_entry_eq]
  generalize (lg_sl ([.ref hT, .double x0, .double x1]) ++ List.replicate (17 - (lg_sl ([.ref hT, .double x0, .double x1])).length) Slot.unset).toArray = ls at hl ⊢
  have hl : lv_has ls 17 [(0, .ref hT), (1, .double x0), (3, .double x1)] := hl
  unfold f_X6_remainder at hF
  refine lv_dload_n hx hb dX6_remainder_0 rfl (lv_at hl 1 rfl) ?_
  obtain ⟨q_1, hc_2, hF⟩ := bnd_some hF
  refine cS_d (As := [.double x0]) (rest := []) C X (c_X6_sizeOf l D  x0 q_1 hc_2 _) (va_cwS 1 hts (good_S q5_70 q5_71 q1_2 q5_72) rfl rfl rfl (by decide +kernel) ⟨Nat.le_of_ble_eq_true rfl, Nat.le_of_ble_eq_true rfl⟩) (eK X) eP (eD (A := A)) (eF X) hl.1 rfl rfl (Nat.le_of_ble_eq_true rfl) dX6_remainder_1 ⟨Nat.le_of_ble_eq_true rfl, Nat.le_of_ble_eq_true rfl⟩ (fun t H1 locs1 ht hB hk hS => ?_)
  have X := Hx_after_none X hk hS
  clear hk hS ht hB
  generalize H1 = H at X ⊢
  generalize locs1 = locs at X ⊢
  refine lv_dstore (lv' := [(5, .double q_1), (0, .ref hT), (1, .double x0), (3, .double x1)]) hx hb dX6_remainder_4 hl (by decide) rfl (fun ls hl => ?_)
  refine lv_dload_n hx hb dX6_remainder_6 rfl (lv_at hl 3 rfl) ?_
  obtain ⟨q_3, hc_4, hF⟩ := bnd_some hF
  refine cS_d (As := [.double x1]) (rest := []) C X (c_X6_sizeOf l D  x1 q_3 hc_4 _) (va_cwS 1 hts (good_S q5_70 q5_71 q1_2 q5_72) rfl rfl rfl (by decide +kernel) ⟨Nat.le_of_ble_eq_true rfl, Nat.le_of_ble_eq_true rfl⟩) (eK X) eP (eD (A := A)) (eF X) hl.1 rfl rfl (Nat.le_of_ble_eq_true rfl) dX6_remainder_7 ⟨Nat.le_of_ble_eq_true rfl, Nat.le_of_ble_eq_true rfl⟩ (fun t H1 locs1 ht hB hk hS => ?_)
  have X := Hx_after_none X hk hS
  clear hk hS ht hB
  generalize H1 = H at X ⊢
  generalize locs1 = locs at X ⊢
  refine lv_dstore (lv' := [(7, .double q_3), (5, .double q_1), (0, .ref hT), (1, .double x0), (3, .double x1)]) hx hb dX6_remainder_10 hl (by decide) rfl (fun ls hl => ?_)
  refine lv_dload hx hb dX6_remainder_12 (lv_at hl 0 rfl) ?_
  refine lv_dconst0 hx hb dX6_remainder_14 ?_
  refine lv_dcmp hx hb dX6_remainder_15 ?_
  refine lv_if_eq (tgt := 27) hx hb dX6_remainder_16 (by decide) (fun c => ?_) (fun c => ?_)
  · replace hF := iT c hF
    refine lv_dload_n hx hb dX6_remainder_27 rfl (lv_at hl 3 rfl) ?_
    have hq := Option.some.inj hF
    subst hq
    exact rt_d C X dX6_remainder_28
  · replace hF := iF c hF
    refine lv_dload hx hb dX6_remainder_19 (lv_at hl 1 rfl) ?_
    refine lv_dload hx hb dX6_remainder_21 (lv_at hl 0 rfl) ?_
    refine lv_dcmp hx hb dX6_remainder_23 ?_
    refine lv_if_ge (tgt := 29) hx hb dX6_remainder_24 (by decide) (fun c => ?_) (fun c => ?_)
    · replace hF := iT c hF
      refine lv_aload_n hx hb dX6_remainder_29 rfl (lv_at hl 2 rfl) ?_
      refine lv_dload hx hb dX6_remainder_30 (lv_at hl 0 rfl) ?_
      obtain ⟨q_5, hc_6, hF⟩ := bnd_some hF
      refine cV_i (As := [.double q_3]) (rest := []) C X (c_X6_powerOf l D hT aT yT n gT q_3 q_5 hc_6 _) (cwV 1 hts (good_V q5_106 q5_108 q0_55 q1_2 q5_109) rfl rfl rfl (by decide +kernel) ⟨Nat.le_of_ble_eq_true rfl, Nat.le_of_ble_eq_true rfl⟩) (va_recv X.1 X.2.1 (ci := 6) (q0 := 0) rfl rfl) X.1 X.2.1 X.2.2.1 (free_all X) hl.1 rfl rfl (Nat.le_of_ble_eq_true rfl) dX6_remainder_32 ⟨Nat.le_of_ble_eq_true rfl, Nat.le_of_ble_eq_true rfl⟩ (fun t H1 locs1 ht hB hk hS => ?_)
      have X : Hx D (tX6 yT) A s H1 locs1 (wX6 hT aT yT gT) := Hx_after_all X ht hB hS
      clear hk hS ht hB
      generalize H1 = H at X ⊢
      generalize locs1 = locs at X ⊢
      refine lv_bipush (v := (52 : Int32)) hx hb dX6_remainder_35 (by decide) ?_
      refine lv_isub hx hb dX6_remainder_37 ?_
      refine lv_sipush (v := (-1074 : Int32)) hx hb dX6_remainder_38 (by decide) ?_
      refine va_mmax hx hb (by rw [hml]; exact hl.1.symm) hown (hts _ q5_110) (hts _ q4_13) (hts _ q1_14) (hts _ q4_14) (Nat.le_of_ble_eq_true rfl) (Nat.le_of_ble_eq_true rfl) (Nat.le_of_ble_eq_true rfl) (Nat.le_of_ble_eq_true rfl) dX6_remainder_41 ?_
      refine lv_istore (lv' := [(9, .int (if (q_5 - (52 : Int32)) < (-1074 : Int32) then (-1074 : Int32) else (q_5 - (52 : Int32)))), (7, .double q_3), (5, .double q_1), (0, .ref hT), (1, .double x0), (3, .double x1)]) hx hb dX6_remainder_44 hl (by decide) rfl (fun ls hl => ?_)
      refine lv_aload_n hx hb dX6_remainder_46 rfl (lv_at hl 3 rfl) ?_
      refine lv_dload hx hb dX6_remainder_47 (lv_at hl 2 rfl) ?_
      obtain ⟨q_7, hc_8, hF⟩ := bnd_some hF
      refine cV_i (As := [.double q_1]) (rest := []) C X (c_X6_powerOf l D hT aT yT n gT q_1 q_7 hc_8 _) (cwV 1 hts (good_V q5_106 q5_108 q0_55 q1_2 q5_109) rfl rfl rfl (by decide +kernel) ⟨Nat.le_of_ble_eq_true rfl, Nat.le_of_ble_eq_true rfl⟩) (va_recv X.1 X.2.1 (ci := 6) (q0 := 0) rfl rfl) X.1 X.2.1 X.2.2.1 (free_all X) hl.1 rfl rfl (Nat.le_of_ble_eq_true rfl) dX6_remainder_49 ⟨Nat.le_of_ble_eq_true rfl, Nat.le_of_ble_eq_true rfl⟩ (fun t H1 locs1 ht hB hk hS => ?_)
      have X : Hx D (tX6 yT) A s H1 locs1 (wX6 hT aT yT gT) := Hx_after_all X ht hB hS
      clear hk hS ht hB
      generalize H1 = H at X ⊢
      generalize locs1 = locs at X ⊢
      refine lv_bipush (v := (52 : Int32)) hx hb dX6_remainder_52 (by decide) ?_
      refine lv_isub hx hb dX6_remainder_54 ?_
      refine lv_sipush (v := (-1074 : Int32)) hx hb dX6_remainder_55 (by decide) ?_
      refine va_mmax hx hb (by rw [hml]; exact hl.1.symm) hown (hts _ q5_110) (hts _ q4_13) (hts _ q1_14) (hts _ q4_14) (Nat.le_of_ble_eq_true rfl) (Nat.le_of_ble_eq_true rfl) (Nat.le_of_ble_eq_true rfl) (Nat.le_of_ble_eq_true rfl) dX6_remainder_58 ?_
      refine lv_istore (lv' := [(10, .int (if (q_7 - (52 : Int32)) < (-1074 : Int32) then (-1074 : Int32) else (q_7 - (52 : Int32)))), (9, .int (if (q_5 - (52 : Int32)) < (-1074 : Int32) then (-1074 : Int32) else (q_5 - (52 : Int32)))), (7, .double q_3), (5, .double q_1), (0, .ref hT), (1, .double x0), (3, .double x1)]) hx hb dX6_remainder_61 hl (by decide) rfl (fun ls hl => ?_)
      refine lv_aload_n hx hb dX6_remainder_63 rfl (lv_at hl 4 rfl) ?_
      refine lv_dload hx hb dX6_remainder_64 (lv_at hl 2 rfl) ?_
      refine lv_iload hx hb dX6_remainder_66 (lv_at hl 1 rfl) ?_
      refine lv_ineg hx hb dX6_remainder_68 ?_
      obtain ⟨q_9, hc_10, hF⟩ := bnd_some hF
      refine cV_d (As := [.double q_3, .int (-(if (q_5 - (52 : Int32)) < (-1074 : Int32) then (-1074 : Int32) else (q_5 - (52 : Int32))))]) (rest := []) C X (c_X6_scaled l D hT aT yT gT q_3 (-(if (q_5 - (52 : Int32)) < (-1074 : Int32) then (-1074 : Int32) else (q_5 - (52 : Int32)))) q_9 hc_10 _) (cwV 2 hts (good_V q5_111 q3_212 q3_213 q1_2 q3_214) rfl rfl rfl (by decide +kernel) ⟨Nat.le_of_ble_eq_true rfl, Nat.le_of_ble_eq_true rfl⟩) (va_recv X.1 X.2.1 (ci := 6) (q0 := 0) rfl rfl) X.1 X.2.1 X.2.2.1 (free_all X) hl.1 rfl rfl (Nat.le_of_ble_eq_true rfl) dX6_remainder_69 ⟨Nat.le_of_ble_eq_true rfl, Nat.le_of_ble_eq_true rfl⟩ (fun t H1 locs1 ht hB hk hS => ?_)
      have X : Hx D (tX6 yT) A s H1 locs1 (wX6 hT aT yT gT) := Hx_after_all X ht hB hS
      clear hk hS ht hB
      generalize H1 = H at X ⊢
      generalize locs1 = locs at X ⊢
      refine lv_d2l hx hb dX6_remainder_72 ?_
      refine lv_lstore (lv' := [(11, .long (FP.d2l q_9)), (10, .int (if (q_7 - (52 : Int32)) < (-1074 : Int32) then (-1074 : Int32) else (q_7 - (52 : Int32)))), (9, .int (if (q_5 - (52 : Int32)) < (-1074 : Int32) then (-1074 : Int32) else (q_5 - (52 : Int32)))), (7, .double q_3), (5, .double q_1), (0, .ref hT), (1, .double x0), (3, .double x1)]) hx hb dX6_remainder_73 hl (by decide) rfl (fun ls hl => ?_)
      refine lv_lload hx hb dX6_remainder_75 (lv_at hl 0 rfl) ?_
      refine lv_lconst (v := (0 : Int64)) hx hb dX6_remainder_77 (by decide) ?_
      refine W.lcmp hx hb dX6_remainder_78 ?_
      refine lv_if_gt (tgt := 84) hx hb dX6_remainder_79 (by decide) (fun c => ?_) (fun c => ?_)
      · have c := (lg_cmp_gt _ _).mp c
        replace hF := iT c hF
        refine lv_aload_n hx hb dX6_remainder_84 rfl (lv_at hl 5 rfl) ?_
        refine lv_dload hx hb dX6_remainder_85 (lv_at hl 4 rfl) ?_
        refine lv_iload hx hb dX6_remainder_87 (lv_at hl 1 rfl) ?_
        refine lv_ineg hx hb dX6_remainder_89 ?_
        obtain ⟨q_11, hc_12, hF⟩ := bnd_some hF
        refine cV_d (As := [.double q_1, .int (-(if (q_7 - (52 : Int32)) < (-1074 : Int32) then (-1074 : Int32) else (q_7 - (52 : Int32))))]) (rest := []) C X (c_X6_scaled l D hT aT yT gT q_1 (-(if (q_7 - (52 : Int32)) < (-1074 : Int32) then (-1074 : Int32) else (q_7 - (52 : Int32)))) q_11 hc_12 _) (cwV 2 hts (good_V q5_111 q3_212 q3_213 q1_2 q3_214) rfl rfl rfl (by decide +kernel) ⟨Nat.le_of_ble_eq_true rfl, Nat.le_of_ble_eq_true rfl⟩) (va_recv X.1 X.2.1 (ci := 6) (q0 := 0) rfl rfl) X.1 X.2.1 X.2.2.1 (free_all X) hl.1 rfl rfl (Nat.le_of_ble_eq_true rfl) dX6_remainder_90 ⟨Nat.le_of_ble_eq_true rfl, Nat.le_of_ble_eq_true rfl⟩ (fun t H1 locs1 ht hB hk hS => ?_)
        have X : Hx D (tX6 yT) A s H1 locs1 (wX6 hT aT yT gT) := Hx_after_all X ht hB hS
        clear hk hS ht hB
        generalize H1 = H at X ⊢
        generalize locs1 = locs at X ⊢
        refine lv_d2l hx hb dX6_remainder_93 ?_
        refine lv_lload hx hb dX6_remainder_94 (lv_at hl 0 rfl) ?_
        obtain ⟨h_13, hF⟩ := grd_some hF
        refine lv_lrem hx hb dX6_remainder_96 (nzL_ok h_13) ?_
        refine lv_lstore (lv' := [(13, .long ((FP.d2l q_11) - (FP.d2l q_11) / (FP.d2l q_9) * (FP.d2l q_9))), (11, .long (FP.d2l q_9)), (10, .int (if (q_7 - (52 : Int32)) < (-1074 : Int32) then (-1074 : Int32) else (q_7 - (52 : Int32)))), (9, .int (if (q_5 - (52 : Int32)) < (-1074 : Int32) then (-1074 : Int32) else (q_5 - (52 : Int32)))), (7, .double q_3), (5, .double q_1), (0, .ref hT), (1, .double x0), (3, .double x1)]) hx hb dX6_remainder_97 hl (by decide) rfl (fun ls hl => ?_)
        refine lv_iload hx hb dX6_remainder_99 (lv_at hl 2 rfl) ?_
        refine lv_iload hx hb dX6_remainder_101 (lv_at hl 3 rfl) ?_
        refine lv_isub hx hb dX6_remainder_103 ?_
        refine lv_istore (lv' := [(15, .int ((if (q_7 - (52 : Int32)) < (-1074 : Int32) then (-1074 : Int32) else (q_7 - (52 : Int32))) - (if (q_5 - (52 : Int32)) < (-1074 : Int32) then (-1074 : Int32) else (q_5 - (52 : Int32))))), (13, .long ((FP.d2l q_11) - (FP.d2l q_11) / (FP.d2l q_9) * (FP.d2l q_9))), (11, .long (FP.d2l q_9)), (10, .int (if (q_7 - (52 : Int32)) < (-1074 : Int32) then (-1074 : Int32) else (q_7 - (52 : Int32)))), (9, .int (if (q_5 - (52 : Int32)) < (-1074 : Int32) then (-1074 : Int32) else (q_5 - (52 : Int32)))), (7, .double q_3), (5, .double q_1), (0, .ref hT), (1, .double x0), (3, .double x1)]) hx hb dX6_remainder_104 hl (by decide) rfl (fun ls hl => ?_)
        exact (kL_X6_remainder l D hT aT yT n n) C X (lv_sub hl [7, 8, 4, 2, 1, 0] rfl) hF
      · have c := fun h => c ((lg_cmp_gt _ _).mpr h)
        replace hF := iF c hF
        refine lv_dload_n hx hb dX6_remainder_82 rfl (lv_at hl 6 rfl) ?_
        have hq := Option.some.inj hF
        subst hq
        exact rt_d C X dX6_remainder_83
    · replace hF := iF c hF
      refine lv_dload_n hx hb dX6_remainder_27 rfl (lv_at hl 3 rfl) ?_
      have hq := Option.some.inj hF
      subst hq
      exact rt_d C X dX6_remainder_28

/-! ### X6_gcdOf -/
theorem dX6_gcdOf_0 : decode cX6_gcdOf 0 = .ok (.dload_n 1, 1) := by decide +kernel
theorem dX6_gcdOf_1 : decode cX6_gcdOf 1 = .ok (.invokestatic 27, 3) := by decide +kernel
theorem dX6_gcdOf_4 : decode cX6_gcdOf 4 = .ok (.dstore 5, 2) := by decide +kernel
theorem dX6_gcdOf_6 : decode cX6_gcdOf 6 = .ok (.dload_n 3, 1) := by decide +kernel
theorem dX6_gcdOf_7 : decode cX6_gcdOf 7 = .ok (.invokestatic 27, 3) := by decide +kernel
theorem dX6_gcdOf_10 : decode cX6_gcdOf 10 = .ok (.dstore 7, 2) := by decide +kernel
theorem dX6_gcdOf_12 : decode cX6_gcdOf 12 = .ok (.iconst 0, 1) := by decide +kernel
theorem dX6_gcdOf_13 : decode cX6_gcdOf 13 = .ok (.istore 9, 2) := by decide +kernel
theorem dX6_gcdOf_15 : decode cX6_gcdOf 15 = .ok (.iload 9, 2) := by decide +kernel
theorem dX6_gcdOf_17 : decode cX6_gcdOf 17 = .ok (.sipush 1000, 3) := by decide +kernel
theorem dX6_gcdOf_20 : decode cX6_gcdOf 20 = .ok (.if_icmp .ge 34, 3) := by decide +kernel
theorem dX6_gcdOf_23 : decode cX6_gcdOf 23 = .ok (.dload 7, 2) := by decide +kernel
theorem dX6_gcdOf_25 : decode cX6_gcdOf 25 = .ok (.dconst 0, 1) := by decide +kernel
theorem dX6_gcdOf_26 : decode cX6_gcdOf 26 = .ok (.dcmp .l, 1) := by decide +kernel
theorem dX6_gcdOf_27 : decode cX6_gcdOf 27 = .ok (.ifCond .eq 27, 3) := by decide +kernel
theorem dX6_gcdOf_30 : decode cX6_gcdOf 30 = .ok (.aload_n 0, 1) := by decide +kernel
theorem dX6_gcdOf_31 : decode cX6_gcdOf 31 = .ok (.dload 5, 2) := by decide +kernel
theorem dX6_gcdOf_33 : decode cX6_gcdOf 33 = .ok (.dload 7, 2) := by decide +kernel
theorem dX6_gcdOf_35 : decode cX6_gcdOf 35 = .ok (.invokevirtual 80, 3) := by decide +kernel
theorem dX6_gcdOf_38 : decode cX6_gcdOf 38 = .ok (.dstore 10, 2) := by decide +kernel
theorem dX6_gcdOf_40 : decode cX6_gcdOf 40 = .ok (.dload 7, 2) := by decide +kernel
theorem dX6_gcdOf_42 : decode cX6_gcdOf 42 = .ok (.dstore 5, 2) := by decide +kernel
theorem dX6_gcdOf_44 : decode cX6_gcdOf 44 = .ok (.dload 10, 2) := by decide +kernel
theorem dX6_gcdOf_46 : decode cX6_gcdOf 46 = .ok (.dstore 7, 2) := by decide +kernel
theorem dX6_gcdOf_48 : decode cX6_gcdOf 48 = .ok (.iinc 9 1, 3) := by decide +kernel
theorem dX6_gcdOf_51 : decode cX6_gcdOf 51 = .ok (.goto (-36), 3) := by decide +kernel
theorem dX6_gcdOf_54 : decode cX6_gcdOf 54 = .ok (.dload 5, 2) := by decide +kernel
theorem dX6_gcdOf_56 : decode cX6_gcdOf 56 = .ok (.dreturn, 1) := by decide +kernel
abbrev R_X6_gcdOf : Room := ({ frames := 2, cells := 0, slots := 0, locals := 100 } : Room)
def h_X6_gcdOf_15 (n : Nat) (rec : (Gs → UInt64 → UInt64 → Int32 → Option (UInt64))) (gT : Gs) (v5 : UInt64) (v7 : UInt64) (v9 : Int32) : Option (UInt64) :=
  if (1000 : Int32) ≤ v9 then (some v5) else (if (Op.cmpValue (FP.dcmp v7 FP.dconst0) .l) = 0 then (some v5) else (bnd (f_X6_remainder n gT v5 v7) (fun q_5 => rec gT v7 q_5 (v9 + (1 : Int32)))))
def L_X6_gcdOf (n : Nat) : Nat → (Gs → UInt64 → UInt64 → Int32 → Option (UInt64))
  | 0 => ((fun _ _ _ _ => none))
  | k + 1 => (h_X6_gcdOf_15 n (L_X6_gcdOf n k))
def f_X6_gcdOf (n : Nat) (gT : Gs) (x0 : UInt64) (x1 : UInt64) : Option (UInt64) :=
  bnd (f_X6_sizeOf x0) (fun q_1 => bnd (f_X6_sizeOf x1) (fun q_3 => (L_X6_gcdOf n n) gT q_1 q_3 (0 : Int32)))
def S_X6_gcdOf_15 (l : Launch) (D : Dx) (hT : Nat) (aT : Nat → Nat) (yT : Nat → ClassId) (fn : Gs → UInt64 → UInt64 → Int32 → Option (UInt64)) : Prop :=
  ∀ {p : Program} {e : Env} {s : State} {m : MethodId} {args : Array Value} {below : List Frame} {meth : Method} {c : Code} {H : Heap} {locs : List Loc} {A : Nat → Prop} {ls : Array Slot} {gT : Gs} {v5 : UInt64} {v7 : UInt64} {v9 : Int32} {q : UInt64}, Cx p s m args meth c cX6_gcdOf (some .double) 12 RX6 lw_all → Hx D (tX6 yT) A s H locs (wX6 hT aT yT gT) → lv_has ls 12 [(0, .ref hT), (5, .double v5), (7, .double v7), (9, .int v9)] → fn gT v5 v7 v9 = some q → W p l e R_X6_gcdOf s m args below meth c H locs 0 0 (MQ below (QD D A (wX6 hT aT yT gT) q) args s 0 0 A) (F0 m 15 ls [])
def SH_X6_gcdOf (l : Launch) (D : Dx) (hT : Nat) (aT : Nat → Nat) (yT : Nat → ClassId) (rec : (Gs → UInt64 → UInt64 → Int32 → Option (UInt64))) : Prop := S_X6_gcdOf_15 l D hT aT yT rec
set_option maxHeartbeats 4000000 in
set_option maxRecDepth 100000 in
theorem k_X6_gcdOf_15 (l : Launch) (D : Dx) (hT : Nat) (aT : Nat → Nat) (yT : Nat → ClassId) (n : Nat) (rec : (Gs → UInt64 → UInt64 → Int32 → Option (UInt64))) (IH : SH_X6_gcdOf l D hT aT yT rec) : S_X6_gcdOf_15 l D hT aT yT (h_X6_gcdOf_15 n rec) := by
  intro p e s m args below meth c H locs A ls gT v5 v7 v9 q C X hl hF
  obtain ⟨hx, hb, hr, hml, hown, hts, hlk⟩ := id C
  unfold h_X6_gcdOf_15 at hF
  refine lv_iload hx hb dX6_gcdOf_15 (lv_at hl 3 rfl) ?_
  refine lv_sipush (v := (1000 : Int32)) hx hb dX6_gcdOf_17 (by decide) ?_
  refine lv_icmp_ge (tgt := 54) hx hb dX6_gcdOf_20 (by decide) (fun c => ?_) (fun c => ?_)
  · replace hF := iT c hF
    refine lv_dload hx hb dX6_gcdOf_54 (lv_at hl 1 rfl) ?_
    have hq := Option.some.inj hF
    subst hq
    exact rt_d C X dX6_gcdOf_56
  · replace hF := iF c hF
    refine lv_dload hx hb dX6_gcdOf_23 (lv_at hl 2 rfl) ?_
    refine lv_dconst0 hx hb dX6_gcdOf_25 ?_
    refine lv_dcmp hx hb dX6_gcdOf_26 ?_
    refine lv_if_eq (tgt := 54) hx hb dX6_gcdOf_27 (by decide) (fun c => ?_) (fun c => ?_)
    · replace hF := iT c hF
      refine lv_dload hx hb dX6_gcdOf_54 (lv_at hl 1 rfl) ?_
      have hq := Option.some.inj hF
      subst hq
      exact rt_d C X dX6_gcdOf_56
    · replace hF := iF c hF
      refine lv_aload_n hx hb dX6_gcdOf_30 rfl (lv_at hl 0 rfl) ?_
      refine lv_dload hx hb dX6_gcdOf_31 (lv_at hl 1 rfl) ?_
      refine lv_dload hx hb dX6_gcdOf_33 (lv_at hl 2 rfl) ?_
      obtain ⟨q_5, hc_6, hF⟩ := bnd_some hF
      refine cV_d (As := [.double v5, .double v7]) (rest := []) C X (c_X6_remainder l D hT aT yT n gT v5 v7 q_5 hc_6 _) (cwV 2 hts (good_V q5_123 q5_103 q5_104 q1_2 q5_105) rfl rfl rfl (by decide +kernel) ⟨Nat.le_of_ble_eq_true rfl, Nat.le_of_ble_eq_true rfl⟩) (va_recv X.1 X.2.1 (ci := 6) (q0 := 0) rfl rfl) X.1 X.2.1 X.2.2.1 (free_all X) hl.1 rfl rfl (Nat.le_of_ble_eq_true rfl) dX6_gcdOf_35 ⟨Nat.le_of_ble_eq_true rfl, Nat.le_of_ble_eq_true rfl⟩ (fun t H1 locs1 ht hB hk hS => ?_)
      have X : Hx D (tX6 yT) A s H1 locs1 (wX6 hT aT yT gT) := Hx_after_all X ht hB hS
      clear hk hS ht hB
      generalize H1 = H at X ⊢
      generalize locs1 = locs at X ⊢
      refine lv_dstore (lv' := [(10, .double q_5), (0, .ref hT), (5, .double v5), (7, .double v7), (9, .int v9)]) hx hb dX6_gcdOf_38 hl (by decide) rfl (fun ls hl => ?_)
      refine lv_dload hx hb dX6_gcdOf_40 (lv_at hl 3 rfl) ?_
      refine lv_dstore (lv' := [(5, .double v7), (10, .double q_5), (0, .ref hT), (7, .double v7), (9, .int v9)]) hx hb dX6_gcdOf_42 hl (by decide) rfl (fun ls hl => ?_)
      refine lv_dload hx hb dX6_gcdOf_44 (lv_at hl 1 rfl) ?_
      refine lv_dstore (lv' := [(7, .double q_5), (5, .double v7), (10, .double q_5), (0, .ref hT), (9, .int v9)]) hx hb dX6_gcdOf_46 hl (by decide) rfl (fun ls hl => ?_)
      refine lv_iinc (v := v9 + (1 : Int32)) (lv' := [(9, .int (v9 + (1 : Int32))), (7, .double q_5), (5, .double v7), (10, .double q_5), (0, .ref hT)]) hx hb dX6_gcdOf_48 hl (k := 4) rfl rfl (by decide) rfl (fun ls hl => ?_)
      refine lv_goto (tgt := 15) hx hb dX6_gcdOf_51 (by decide) ?_
      exact IH C X (lv_sub hl [4, 2, 1, 0] rfl) hF
theorem kL_X6_gcdOf (l : Launch) (D : Dx) (hT : Nat) (aT : Nat → Nat) (yT : Nat → ClassId) (n : Nat) : ∀ k, SH_X6_gcdOf l D hT aT yT (L_X6_gcdOf n k)
  | 0 => fun _ _ _ h => by cases h
  | k + 1 => k_X6_gcdOf_15 l D hT aT yT n _ (kL_X6_gcdOf l D hT aT yT n k)
set_option maxHeartbeats 4000000 in
set_option maxRecDepth 100000 in
theorem c_X6_gcdOf (l : Launch) (D : Dx) (hT : Nat) (aT : Nat → Nat) (yT : Nat → ClassId) (n : Nat) (gT : Gs) (x0 : UInt64) (x1 : UInt64) (q : UInt64) (hF : f_X6_gcdOf n gT x0 x1 = some q) (sz : Nat) : Met l yX6_gcdOf (ws_ yX6_gcdOf cX6_gcdOf 12 (some .double)) R_X6_gcdOf (PC D (tX6 yT) [.ref hT, .double x0, .double x1] (wX6 hT aT yT gT) sz) (QD D (va_A (wX6 hT aT yT gT) sz) (wX6 hT aT yT gT) q) 0 0 (va_A (wX6 hT aT yT gT) sz) := by
  refine Met.ofW (cc := cX6_gcdOf) (maxL := 12) (ret := (some .double)) (by decide) rfl ?_
  intro p e s m args below meth c s₁ B hml hv
  obtain ⟨rfl, hsz, hP, hK, hD, hN⟩ := hv
  subst hsz
  have C : Cx p s m _ meth c cX6_gcdOf (some .double) 12 RX6 lw_all := Cx_of B hml
  have X := Hx_start hP hK hD hN
  obtain ⟨hx, hb, hr, -, hown, hts, hlk⟩ := id C
  generalize va_A (wX6 hT aT yT gT) s.heap.size = A at X ⊢
  have hl := lv_entry ([.ref hT, .double x0, .double x1]) (n := 12) (Nat.le_of_ble_eq_true rfl)
  rw [lg_entry_eq]
  generalize (lg_sl ([.ref hT, .double x0, .double x1]) ++ List.replicate (12 - (lg_sl ([.ref hT, .double x0, .double x1])).length) Slot.unset).toArray = ls at hl ⊢
  have hl : lv_has ls 12 [(0, .ref hT), (1, .double x0), (3, .double x1)] := hl
  unfold f_X6_gcdOf at hF
  refine lv_dload_n hx hb dX6_gcdOf_0 rfl (lv_at hl 1 rfl) ?_
  obtain ⟨q_1, hc_2, hF⟩ := bnd_some hF
  refine cS_d (As := [.double x0]) (rest := []) C X (c_X6_sizeOf l D  x0 q_1 hc_2 _) (va_cwS 1 hts (good_S q5_70 q5_71 q1_2 q5_72) rfl rfl rfl (by decide +kernel) ⟨Nat.le_of_ble_eq_true rfl, Nat.le_of_ble_eq_true rfl⟩) (eK X) eP (eD (A := A)) (eF X) hl.1 rfl rfl (Nat.le_of_ble_eq_true rfl) dX6_gcdOf_1 ⟨Nat.le_of_ble_eq_true rfl, Nat.le_of_ble_eq_true rfl⟩ (fun t H1 locs1 ht hB hk hS => ?_)
  have X := Hx_after_none X hk hS
  clear hk hS ht hB
  generalize H1 = H at X ⊢
  generalize locs1 = locs at X ⊢
  refine lv_dstore (lv' := [(5, .double q_1), (0, .ref hT), (1, .double x0), (3, .double x1)]) hx hb dX6_gcdOf_4 hl (by decide) rfl (fun ls hl => ?_)
  refine lv_dload_n hx hb dX6_gcdOf_6 rfl (lv_at hl 3 rfl) ?_
  obtain ⟨q_3, hc_4, hF⟩ := bnd_some hF
  refine cS_d (As := [.double x1]) (rest := []) C X (c_X6_sizeOf l D  x1 q_3 hc_4 _) (va_cwS 1 hts (good_S q5_70 q5_71 q1_2 q5_72) rfl rfl rfl (by decide +kernel) ⟨Nat.le_of_ble_eq_true rfl, Nat.le_of_ble_eq_true rfl⟩) (eK X) eP (eD (A := A)) (eF X) hl.1 rfl rfl (Nat.le_of_ble_eq_true rfl) dX6_gcdOf_7 ⟨Nat.le_of_ble_eq_true rfl, Nat.le_of_ble_eq_true rfl⟩ (fun t H1 locs1 ht hB hk hS => ?_)
  have X := Hx_after_none X hk hS
  clear hk hS ht hB
  generalize H1 = H at X ⊢
  generalize locs1 = locs at X ⊢
  refine lv_dstore (lv' := [(7, .double q_3), (5, .double q_1), (0, .ref hT), (1, .double x0), (3, .double x1)]) hx hb dX6_gcdOf_10 hl (by decide) rfl (fun ls hl => ?_)
  refine lv_iconst (v := (0 : Int32)) hx hb dX6_gcdOf_12 (by decide) ?_
  refine lv_istore (lv' := [(9, .int (0 : Int32)), (7, .double q_3), (5, .double q_1), (0, .ref hT), (1, .double x0), (3, .double x1)]) hx hb dX6_gcdOf_13 hl (by decide) rfl (fun ls hl => ?_)
  exact (kL_X6_gcdOf l D hT aT yT n n) C X (lv_sub hl [3, 2, 1, 0] rfl) hF
