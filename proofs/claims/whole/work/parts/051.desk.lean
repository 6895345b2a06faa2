def kdX10 (k : Nat) : Nat := ([3, 0] : List Nat).getD k 9
def ksX10 : List Nat := [0]
def akX10 (k : Nat) : Nat := ([0, 9] : List Nat).getD k 9
def lnX10 (k : Nat) : Nat := ([4, 0] : List Nat).getD k 0
def tkX10 (k : Nat) : FieldType := ([.int, .int] : List FieldType).getD k .int
abbrev wX10 (h : Nat) (a : Nat → Nat) (y : Nat → ClassId) (g : Gs) : va_W := wG 10 2 kdX10 ksX10 akX10 lnX10 h a y g
abbrev tX10 (y : Nat → ClassId) : List (ClassId × FieldType) := tG ksX10 tkX10 y
theorem ndX10 : va_nd ksX10 = true := by decide
theorem wi_X10 : ∀ w ∈ u_ws RX10 TX10 2, w ∈ lw_all := wi_all (wi_eq rfl (wi_ch tc_1 [190, 192]))
def kdX3 (k : Nat) : Nat := ([3, 3, 0] : List Nat).getD k 9
def ksX3 : List Nat := [1]
def akX3 (k : Nat) : Nat := ([9, 0, 9] : List Nat).getD k 9
def lnX3 (k : Nat) : Nat := ([0, 48, 0] : List Nat).getD k 0
def tkX3 (k : Nat) : FieldType := ([.int, .byte, .int] : List FieldType).getD k .int
abbrev wX3 (h : Nat) (a : Nat → Nat) (y : Nat → ClassId) (g : Gs) : va_W := wG 3 3 kdX3 ksX3 akX3 lnX3 h a y g
abbrev tX3 (y : Nat → ClassId) : List (ClassId × FieldType) := tG ksX3 tkX3 y
theorem ndX3 : va_nd ksX3 = true := by decide
theorem wi_X3 : ∀ w ∈ u_ws RX3 TX3 3, w ∈ lw_all := wi_all (wi_eq rfl (wi_ch tc_1 [173, 175, 177]))
theorem q6_104 : Cond.constantDouble RX10 21 (13830554455654793216) ∈ lw_all := lw_in (tc_6 (List.mem_of_getElem? (i := 104) rfl)) rfl
theorem q6_105 : Cond.methodLink RX10 23 yX10_quotient ∈ lw_all := lw_in (tc_6 (List.mem_of_getElem? (i := 105) rfl)) rfl
theorem q6_106 : Cond.static yX10_quotient ∈ lw_all := lw_in (tc_6 (List.mem_of_getElem? (i := 106) rfl)) rfl
theorem q1_6 : Cond.initialized RX10 ∈ lw_all := lw_in (tc_1 (List.mem_of_getElem? (i := 6) rfl)) rfl
theorem q6_107 : Cond.code yX10_quotient cX10_quotient 2 (some .double) ∈ lw_all := lw_in (tc_6 (List.mem_of_getElem? (i := 107) rfl)) rfl
theorem q6_108 : Cond.methodLink RX10 27 yX10_distance ∈ lw_all := lw_in (tc_6 (List.mem_of_getElem? (i := 108) rfl)) rfl
theorem q6_109 : Cond.static yX10_distance ∈ lw_all := lw_in (tc_6 (List.mem_of_getElem? (i := 109) rfl)) rfl
theorem q6_110 : Cond.code yX10_distance cX10_distance 6 (some .double) ∈ lw_all := lw_in (tc_6 (List.mem_of_getElem? (i := 110) rfl)) rfl
theorem q1_186 : Cond.fieldLink RX10 7 "TurningHall$Train" "wheels" "[I" ∈ lw_all := lw_in (tc_1 (List.mem_of_getElem? (i := 186) rfl)) rfl
theorem q1_188 : Cond.fieldLink RX10 13 "TurningHall$Train" "wheelCount" "I" ∈ lw_all := lw_in (tc_1 (List.mem_of_getElem? (i := 188) rfl)) rfl
theorem q6_100 : Cond.methodLink RX10 17 yX10_findPair ∈ lw_all := lw_in (tc_6 (List.mem_of_getElem? (i := 100) rfl)) rfl
theorem q6_102 : Cond.instanceMethod yX10_findPair ∈ lw_all := lw_in (tc_6 (List.mem_of_getElem? (i := 102) rfl)) rfl
theorem q0_64 : Cond.selects RX10 yX10_findPair yX10_findPair ∈ lw_all := lw_in (tc_0 (List.mem_of_getElem? (i := 64) rfl)) rfl
theorem q6_103 : Cond.code yX10_findPair cX10_findPair 14 (some .double) ∈ lw_all := lw_in (tc_6 (List.mem_of_getElem? (i := 103) rfl)) rfl
theorem q6_115 : Cond.methodLink RX10 31 yX10_nearest ∈ lw_all := lw_in (tc_6 (List.mem_of_getElem? (i := 115) rfl)) rfl
theorem q6_116 : Cond.static yX10_nearest ∈ lw_all := lw_in (tc_6 (List.mem_of_getElem? (i := 116) rfl)) rfl
theorem q6_117 : Cond.code yX10_nearest cX10_nearest 14 (some .double) ∈ lw_all := lw_in (tc_6 (List.mem_of_getElem? (i := 117) rfl)) rfl
theorem q1_171 : Cond.fieldLink RX3 15 "TurningHall$Page" "length" "I" ∈ lw_all := lw_in (tc_1 (List.mem_of_getElem? (i := 171) rfl)) rfl
theorem q1_169 : Cond.fieldLink RX3 9 "TurningHall$Page" "bytes" "[B" ∈ lw_all := lw_in (tc_1 (List.mem_of_getElem? (i := 169) rfl)) rfl
theorem q6_50 : Cond.methodLink RX3 23 yX3_put ∈ lw_all := lw_in (tc_6 (List.mem_of_getElem? (i := 50) rfl)) rfl
theorem q6_51 : Cond.instanceMethod yX3_put ∈ lw_all := lw_in (tc_6 (List.mem_of_getElem? (i := 51) rfl)) rfl
theorem q6_52 : Cond.selects RX3 yX3_put yX3_put ∈ lw_all := lw_in (tc_6 (List.mem_of_getElem? (i := 52) rfl)) rfl
theorem q1_5 : Cond.initialized RX3 ∈ lw_all := lw_in (tc_1 (List.mem_of_getElem? (i := 5) rfl)) rfl
theorem q6_53 : Cond.code yX3_put cX3_put 2 none ∈ lw_all := lw_in (tc_6 (List.mem_of_getElem? (i := 53) rfl)) rfl
theorem q6_59 : Cond.constantLong RX3 43 (10) ∈ lw_all := lw_in (tc_6 (List.mem_of_getElem? (i := 59) rfl)) rfl
theorem q6_54 : Cond.methodLink RX3 27 yX6_sizeOf ∈ lw_all := lw_in (tc_6 (List.mem_of_getElem? (i := 54) rfl)) rfl
theorem q6_55 : Cond.methodLink RX3 33 yX3_putWhole ∈ lw_all := lw_in (tc_6 (List.mem_of_getElem? (i := 55) rfl)) rfl
theorem q6_57 : Cond.instanceMethod yX3_putWhole ∈ lw_all := lw_in (tc_6 (List.mem_of_getElem? (i := 57) rfl)) rfl
theorem q0_63 : Cond.selects RX3 yX3_putWhole yX3_putWhole ∈ lw_all := lw_in (tc_0 (List.mem_of_getElem? (i := 63) rfl)) rfl
theorem q6_58 : Cond.code yX3_putWhole cX3_putWhole 7 none ∈ lw_all := lw_in (tc_6 (List.mem_of_getElem? (i := 58) rfl)) rfl
theorem q1_168 : Cond.fieldLink RX3 19 "TurningHall$Page" "reals" "LTurningHall$Reals;" ∈ lw_all := lw_in (tc_1 (List.mem_of_getElem? (i := 168) rfl)) rfl
theorem q6_60 : Cond.methodLink RX3 37 yX6_remainder ∈ lw_all := lw_in (tc_6 (List.mem_of_getElem? (i := 60) rfl)) rfl
theorem q6_61 : Cond.constantDouble RX3 41 (4621819117588971520) ∈ lw_all := lw_in (tc_6 (List.mem_of_getElem? (i := 61) rfl)) rfl
/-! ### X10_distance -/
theorem dX10_distance_0 : decode cX10_distance 0 = .ok (.dload_n 0, 1) := by decide +kernel
theorem dX10_distance_1 : decode cX10_distance 1 = .ok (.dload_n 2, 1) := by decide +kernel
theorem dX10_distance_2 : decode cX10_distance 2 = .ok (.dsub, 1) := by decide +kernel
theorem dX10_distance_3 : decode cX10_distance 3 = .ok (.dstore 4, 2) := by decide +kernel
theorem dX10_distance_5 : decode cX10_distance 5 = .ok (.dload 4, 2) := by decide +kernel
theorem dX10_distance_7 : decode cX10_distance 7 = .ok (.dconst 0, 1) := by decide +kernel
theorem dX10_distance_8 : decode cX10_distance 8 = .ok (.dcmp .g, 1) := by decide +kernel
theorem dX10_distance_9 : decode cX10_distance 9 = .ok (.ifCond .ge 9, 3) := by decide +kernel
theorem dX10_distance_12 : decode cX10_distance 12 = .ok (.dload 4, 2) := by decide +kernel
theorem dX10_distance_14 : decode cX10_distance 14 = .ok (.dneg, 1) := by decide +kernel
theorem dX10_distance_15 : decode cX10_distance 15 = .ok (.goto 5, 3) := by decide +kernel
theorem dX10_distance_18 : decode cX10_distance 18 = .ok (.dload 4, 2) := by decide +kernel
theorem dX10_distance_20 : decode cX10_distance 20 = .ok (.dreturn, 1) := by decide +kernel
abbrev R_X10_distance : Room := ({ frames := 0, cells := 0, slots := 0, locals := 0 } : Room)
def f_X10_distance (x0 : UInt64) (x1 : UInt64) : Option (UInt64) :=
  grd (n64 (FP.dsub x0 x1)) (if 0 ≤ (Op.cmpValue (FP.dcmp (FP.dsub x0 x1) FP.dconst0) .g) then (some (FP.dsub x0 x1)) else (some (FP.dneg (FP.dsub x0 x1))))
set_option maxHeartbeats 4000000 in
set_option maxRecDepth 100000 in
theorem c_X10_distance (l : Launch) (D : Dx) (x0 : UInt64) (x1 : UInt64) (q : UInt64) (hF : f_X10_distance x0 x1 = some q) (sz : Nat) : Met l yX10_distance (ws_ yX10_distance cX10_distance 6 (some .double)) R_X10_distance (PC D ([]) [.double x0, .double x1] ([]) sz) (QD D (va_A ([]) sz) ([]) q) 0 0 (va_A ([]) sz) := by
  refine Met.ofW (cc := cX10_distance) (maxL := 6) (ret := (some .double)) (by decide) rfl ?_
  intro p e s m args below meth c s₁ B hml hv
  obtain ⟨rfl, hsz, hP, hK, hD, hN⟩ := hv
  subst hsz
  have C : Cx p s m _ meth c cX10_distance (some .double) 6 RX10 lw_all := Cx_of B hml
  have X := Hx_start hP hK hD hN
  obtain ⟨hx, hb, hr, -, hown, hts, hlk⟩ := id C
  generalize va_A ([]) s.heap.size = A at X ⊢
  have hl := lv_entry ([.double x0, .double x1]) (n := 6) (Nat.le_of_ble_eq_true rfl)
  rw [lg_entry_eq]
  generalize (lg_sl ([.double x0, .double x1]) ++ List.replicate (6 - (lg_sl ([.double x0, .double x1])).length) Slot.unset).toArray = ls at hl ⊢
  have hl : lv_has ls 6 [(0, .double x0), (2, .double x1)] := hl
  unfold f_X10_distance at hF
  refine lv_dload_n hx hb dX10_distance_0 rfl (lv_at hl 0 rfl) ?_
  refine lv_dload_n hx hb dX10_distance_1 rfl (lv_at hl 1 rfl) ?_
  obtain ⟨h_1, hF⟩ := grd_some hF
  refine lv_dsub hx hb dX10_distance_2 (n64_ok h_1) ?_
  refine lv_dstore (lv' := [(4, .double (FP.dsub x0 x1)), (0, .double x0), (2, .double x1)]) hx hb dX10_distance_3 hl (by decide) rfl (fun ls hl => ?_)
  refine lv_dload hx hb dX10_distance_5 (lv_at hl 0 rfl) ?_
  refine lv_dconst0 hx hb dX10_distance_7 ?_
  refine lv_dcmp hx hb dX10_distance_8 ?_
  refine lv_if_ge (tgt := 18) hx hb dX10_distance_9 (by decide) (fun c => ?_) (fun c => ?_)
  · replace hF := iT c hF
    refine lv_dload hx hb dX10_distance_18 (lv_at hl 0 rfl) ?_
    have hq := Option.some.inj hF
    subst hq
    exact rt_d C X dX10_distance_20
  · replace hF := iF c hF
    refine lv_dload hx hb dX10_distance_12 (lv_at hl 0 rfl) ?_
    refine lv_dneg hx hb dX10_distance_14 ?_
    refine lv_goto (tgt := 20) hx hb dX10_distance_15 (by decide) ?_
    have hq := Option.some.inj hF
    subst hq
    exact rt_d C X dX10_distance_20

/-! ### X10_quotient -/
theorem dX10_quotient_0 : decode cX10_quotient 0 = .ok (.iload_n 1, 1) := by decide +kernel
theorem dX10_quotient_1 : decode cX10_quotient 1 = .ok (.ifCond .ne 7, 3) := by decide +kernel
theorem dX10_quotient_4 : decode cX10_quotient 4 = .ok (.dconst 0, 1) := by decide +kernel
theorem dX10_quotient_5 : decode cX10_quotient 5 = .ok (.goto 8, 3) := by decide +kernel
theorem dX10_quotient_8 : decode cX10_quotient 8 = .ok (.iload_n 0, 1) := by decide +kernel
theorem dX10_quotient_9 : decode cX10_quotient 9 = .ok (.i2d, 1) := by decide +kernel
theorem dX10_quotient_10 : decode cX10_quotient 10 = .ok (.iload_n 1, 1) := by decide +kernel
theorem dX10_quotient_11 : decode cX10_quotient 11 = .ok (.i2d, 1) := by decide +kernel
theorem dX10_quotient_12 : decode cX10_quotient 12 = .ok (.ddiv, 1) := by decide +kernel
theorem dX10_quotient_13 : decode cX10_quotient 13 = .ok (.dreturn, 1) := by decide +kernel
abbrev R_X10_quotient : Room := ({ frames := 0, cells := 0, slots := 0, locals := 0 } : Room)
def f_X10_quotient (x0 : Int32) (x1 : Int32) : Option (UInt64) :=
  if x1 = 0 then (some FP.dconst0) else (grd (n64 (FP.ddiv (FP.i2d x0) (FP.i2d x1))) (some (FP.ddiv (FP.i2d x0) (FP.i2d x1))))
set_option maxHeartbeats 4000000 in
set_option maxRecDepth 100000 in
theorem c_X10_quotient (l : Launch) (D : Dx) (x0 : Int32) (x1 : Int32) (q : UInt64) (hF : f_X10_quotient x0 x1 = some q) (sz : Nat) : Met l yX10_quotient (ws_ yX10_quotient cX10_quotient 2 (some .double)) R_X10_quotient (PC D ([]) [.int x0, .int x1] ([]) sz) (QD D (va_A ([]) sz) ([]) q) 0 0 (va_A ([]) sz) := by
  refine Met.ofW (cc := cX10_quotient) (maxL := 2) (ret := (some .double)) (by decide) rfl ?_
  intro p e s m args below meth c s₁ B hml hv
  obtain ⟨rfl, hsz, hP, hK, hD, hN⟩ := hv
  subst hsz
  have C : Cx p s m _ meth c cX10_quotient (some .double) 2 RX10 lw_all := Cx_of B hml
  have X := Hx_start hP hK hD hN
  obtain ⟨hx, hb, hr, -, hown, hts, hlk⟩ := id C
  generalize va_A ([]) s.heap.size = A at X ⊢
  have hl := lv_entry ([.int x0, .int x1]) (n := 2) (Nat.le_of_ble_eq_true rfl)
  rw [lg_entry_eq]
  generalize (lg_sl ([.int x0, .int x1]) ++ List.replicate (2 - (lg_sl ([.int x0, .int x1])).length) Slot.unset).toArray = ls at hl ⊢
  have hl : lv_has ls 2 [(0, .int x0), (1, .int x1)] := hl
  unfold f_X10_quotient at hF
  refine lv_iload_n hx hb dX10_quotient_0 rfl (lv_at hl 1 rfl) ?_
  refine lv_if_ne (tgt := 8) hx hb dX10_quotient_1 (by decide) (fun c => ?_) (fun c => ?_)
  · replace hF := iF c hF
    refine lv_iload_n hx hb dX10_quotient_8 rfl (lv_at hl 0 rfl) ?_
    refine lv_i2d hx hb dX10_quotient_9 ?_
    refine lv_iload_n hx hb dX10_quotient_10 rfl (lv_at hl 1 rfl) ?_
    refine lv_i2d hx hb dX10_quotient_11 ?_
    obtain ⟨h_1, hF⟩ := grd_some hF
    refine lv_ddiv hx hb dX10_quotient_12 (n64_ok h_1) ?_
    have hq := Option.some.inj hF
    subst hq
    exact rt_d C X dX10_quotient_13
  · replace hF := iT c hF
    refine lv_dconst0 hx hb dX10_quotient_4 ?_
    refine lv_goto (tgt := 13) hx hb dX10_quotient_5 (by decide) ?_
    have hq := Option.some.inj hF
    subst hq
    exact rt_d C X dX10_quotient_13

/-! ### X10_findPair -/
theorem dX10_findPair_0 : decode cX10_findPair 0 = .ok (.ldc2_w 21, 3) := by decide +kernel
theorem dX10_findPair_3 : decode cX10_findPair 3 = .ok (.dstore 8, 2) := by decide +kernel
theorem dX10_findPair_5 : decode cX10_findPair 5 = .ok (.iload 5, 2) := by decide +kernel
theorem dX10_findPair_7 : decode cX10_findPair 7 = .ok (.istore 10, 2) := by decide +kernel
theorem dX10_findPair_9 : decode cX10_findPair 9 = .ok (.iload 10, 2) := by decide +kernel
theorem dX10_findPair_11 : decode cX10_findPair 11 = .ok (.iload 6, 2) := by decide +kernel
theorem dX10_findPair_13 : decode cX10_findPair 13 = .ok (.if_icmp .gt 80, 3) := by decide +kernel
theorem dX10_findPair_16 : decode cX10_findPair 16 = .ok (.iload 5, 2) := by decide +kernel
theorem dX10_findPair_18 : decode cX10_findPair 18 = .ok (.istore 11, 2) := by decide +kernel
theorem dX10_findPair_20 : decode cX10_findPair 20 = .ok (.iload 11, 2) := by decide +kernel
theorem dX10_findPair_22 : decode cX10_findPair 22 = .ok (.iload 6, 2) := by decide +kernel
theorem dX10_findPair_24 : decode cX10_findPair 24 = .ok (.if_icmp .gt 63, 3) := by decide +kernel
theorem dX10_findPair_27 : decode cX10_findPair 27 = .ok (.dload_n 1, 1) := by decide +kernel
theorem dX10_findPair_28 : decode cX10_findPair 28 = .ok (.iload 10, 2) := by decide +kernel
theorem dX10_findPair_30 : decode cX10_findPair 30 = .ok (.iload 11, 2) := by decide +kernel
theorem dX10_findPair_32 : decode cX10_findPair 32 = .ok (.invokestatic 23, 3) := by decide +kernel
theorem dX10_findPair_35 : decode cX10_findPair 35 = .ok (.dmul, 1) := by decide +kernel
theorem dX10_findPair_36 : decode cX10_findPair 36 = .ok (.dload_n 3, 1) := by decide +kernel
theorem dX10_findPair_37 : decode cX10_findPair 37 = .ok (.invokestatic 27, 3) := by decide +kernel
theorem dX10_findPair_40 : decode cX10_findPair 40 = .ok (.dstore 12, 2) := by decide +kernel
theorem dX10_findPair_42 : decode cX10_findPair 42 = .ok (.dload 8, 2) := by decide +kernel
theorem dX10_findPair_44 : decode cX10_findPair 44 = .ok (.dconst 0, 1) := by decide +kernel
theorem dX10_findPair_45 : decode cX10_findPair 45 = .ok (.dcmp .g, 1) := by decide +kernel
theorem dX10_findPair_46 : decode cX10_findPair 46 = .ok (.ifCond .lt 11, 3) := by decide +kernel
theorem dX10_findPair_49 : decode cX10_findPair 49 = .ok (.dload 12, 2) := by decide +kernel
theorem dX10_findPair_51 : decode cX10_findPair 51 = .ok (.dload 8, 2) := by decide +kernel
theorem dX10_findPair_53 : decode cX10_findPair 53 = .ok (.dcmp .g, 1) := by decide +kernel
theorem dX10_findPair_54 : decode cX10_findPair 54 = .ok (.ifCond .ge 27, 3) := by decide +kernel
theorem dX10_findPair_57 : decode cX10_findPair 57 = .ok (.dload 12, 2) := by decide +kernel
theorem dX10_findPair_59 : decode cX10_findPair 59 = .ok (.dstore 8, 2) := by decide +kernel
theorem dX10_findPair_61 : decode cX10_findPair 61 = .ok (.aload_n 0, 1) := by decide +kernel
theorem dX10_findPair_62 : decode cX10_findPair 62 = .ok (.getfield 7, 3) := by decide +kernel
theorem dX10_findPair_65 : decode cX10_findPair 65 = .ok (.iload 7, 2) := by decide +kernel
theorem dX10_findPair_67 : decode cX10_findPair 67 = .ok (.iload 10, 2) := by decide +kernel
theorem dX10_findPair_69 : decode cX10_findPair 69 = .ok (.iastore, 1) := by decide +kernel
theorem dX10_findPair_70 : decode cX10_findPair 70 = .ok (.aload_n 0, 1) := by decide +kernel
theorem dX10_findPair_71 : decode cX10_findPair 71 = .ok (.getfield 7, 3) := by decide +kernel
theorem dX10_findPair_74 : decode cX10_findPair 74 = .ok (.iload 7, 2) := by decide +kernel
theorem dX10_findPair_76 : decode cX10_findPair 76 = .ok (.iconst 1, 1) := by decide +kernel
theorem dX10_findPair_77 : decode cX10_findPair 77 = .ok (.iadd, 1) := by decide +kernel
theorem dX10_findPair_78 : decode cX10_findPair 78 = .ok (.iload 11, 2) := by decide +kernel
theorem dX10_findPair_80 : decode cX10_findPair 80 = .ok (.iastore, 1) := by decide +kernel
theorem dX10_findPair_81 : decode cX10_findPair 81 = .ok (.iinc 11 1, 3) := by decide +kernel
theorem dX10_findPair_84 : decode cX10_findPair 84 = .ok (.goto (-64), 3) := by decide +kernel
theorem dX10_findPair_87 : decode cX10_findPair 87 = .ok (.iinc 10 1, 3) := by decide +kernel
theorem dX10_findPair_90 : decode cX10_findPair 90 = .ok (.goto (-81), 3) := by decide +kernel
theorem dX10_findPair_93 : decode cX10_findPair 93 = .ok (.dload 8, 2) := by decide +kernel
theorem dX10_findPair_95 : decode cX10_findPair 95 = .ok (.dreturn, 1) := by decide +kernel
abbrev R_X10_findPair : Room := ({ frames := 1, cells := 0, slots := 0, locals := 25 } : Room)
def b_X10_findPair_81 (n : Nat) (rec : (Gs → UInt64 → UInt64 → Int32 → Int32 → Int32 → UInt64 → Int32 → Option (UInt64 × Gs)) × (Gs → UInt64 → UInt64 → Int32 → Int32 → Int32 → UInt64 → Int32 → Int32 → Option (UInt64 × Gs))) (gT : Gs) (v1 : UInt64) (v3 : UInt64) (v5 : Int32) (v6 : Int32) (v7 : Int32) (v8 : UInt64) (v10 : Int32) (v11 : Int32) : Option (UInt64 × Gs) :=
  rec.2 gT v1 v3 v5 v6 v7 v8 v10 (v11 + (1 : Int32))
def b_X10_findPair_57 (n : Nat) (rec : (Gs → UInt64 → UInt64 → Int32 → Int32 → Int32 → UInt64 → Int32 → Option (UInt64 × Gs)) × (Gs → UInt64 → UInt64 → Int32 → Int32 → Int32 → UInt64 → Int32 → Int32 → Option (UInt64 × Gs))) (gT : Gs) (v1 : UInt64) (v3 : UInt64) (v5 : Int32) (v6 : Int32) (v7 : Int32) (v10 : Int32) (v11 : Int32) (v12 : UInt64) : Option (UInt64 × Gs) :=
  grd (inB v7 4) (grd (inB (v7 + (1 : Int32)) 4) (b_X10_findPair_81 n rec (sIA (sIA gT 0 (upd (gIA gT 0) v7.toNatClampNeg v10)) 0 (upd (upd (gIA gT 0) v7.toNatClampNeg v10) (v7 + (1 : Int32)).toNatClampNeg v11)) v1 v3 v5 v6 v7 v12 v10 v11))
def h_X10_findPair_20 (n : Nat) (rec : (Gs → UInt64 → UInt64 → Int32 → Int32 → Int32 → UInt64 → Int32 → Option (UInt64 × Gs)) × (Gs → UInt64 → UInt64 → Int32 → Int32 → Int32 → UInt64 → Int32 → Int32 → Option (UInt64 × Gs))) (gT : Gs) (v1 : UInt64) (v3 : UInt64) (v5 : Int32) (v6 : Int32) (v7 : Int32) (v8 : UInt64) (v10 : Int32) (v11 : Int32) : Option (UInt64 × Gs) :=
  if v6 < v11 then (rec.1 gT v1 v3 v5 v6 v7 v8 (v10 + (1 : Int32))) else (bnd (f_X10_quotient v10 v11) (fun q_1 => grd (n64 (FP.dmul v1 q_1)) (bnd (f_X10_distance (FP.dmul v1 q_1) v3) (fun q_4 => if (Op.cmpValue (FP.dcmp v8 FP.dconst0) .g) < 0 then (b_X10_findPair_57 n rec gT v1 v3 v5 v6 v7 v10 v11 q_4) else (if 0 ≤ (Op.cmpValue (FP.dcmp q_4 v8) .g) then (b_X10_findPair_81 n rec gT v1 v3 v5 v6 v7 v8 v10 v11) else (b_X10_findPair_57 n rec gT v1 v3 v5 v6 v7 v10 v11 q_4))))))
def h_X10_findPair_9 (n : Nat) (rec : (Gs → UInt64 → UInt64 → Int32 → Int32 → Int32 → UInt64 → Int32 → Option (UInt64 × Gs)) × (Gs → UInt64 → UInt64 → Int32 → Int32 → Int32 → UInt64 → Int32 → Int32 → Option (UInt64 × Gs))) (gT : Gs) (v1 : UInt64) (v3 : UInt64) (v5 : Int32) (v6 : Int32) (v7 : Int32) (v8 : UInt64) (v10 : Int32) : Option (UInt64 × Gs) :=
  if v6 < v10 then (some (v8, gT)) else (rec.2 gT v1 v3 v5 v6 v7 v8 v10 v5)
def L_X10_findPair (n : Nat) : Nat → ((Gs → UInt64 → UInt64 → Int32 → Int32 → Int32 → UInt64 → Int32 → Option (UInt64 × Gs)) × (Gs → UInt64 → UInt64 → Int32 → Int32 → Int32 → UInt64 → Int32 → Int32 → Option (UInt64 × Gs)))
  | 0 => ((fun _ _ _ _ _ _ _ _ => none), (fun _ _ _ _ _ _ _ _ _ => none))
  | k + 1 => (h_X10_findPair_9 n (L_X10_findPair n k), h_X10_findPair_20 n (L_X10_findPair n k))
def f_X10_findPair (n : Nat) (gT : Gs) (x0 : UInt64) (x1 : UInt64) (x2 : Int32) (x3 : Int32) (x4 : Int32) : Option (UInt64 × Gs) :=
  (L_X10_findPair n n).1 gT x0 x1 x2 x3 x4 (13830554455654793216 : UInt64) x2
def S_X10_findPair_81 (l : Launch) (D : Dx) (hT : Nat) (aT : Nat → Nat) (yT : Nat → ClassId) (fn : Gs → UInt64 → UInt64 → Int32 → Int32 → Int32 → UInt64 → Int32 → Int32 → Option (UInt64 × Gs)) : Prop :=
  ∀ {p : Program} {e : Env} {s : State} {m : MethodId} {args : Array Value} {below : List Frame} {meth : Method} {c : Code} {H : Heap} {locs : List Loc} {A : Nat → Prop} {ls : Array Slot} {gT : Gs} {v1 : UInt64} {v3 : UInt64} {v5 : Int32} {v6 : Int32} {v7 : Int32} {v8 : UInt64} {v10 : Int32} {v11 : Int32} {q : UInt64 × Gs}, Cx p s m args meth c cX10_findPair (some .double) 14 RX10 lw_all → Hx D (tX10 yT) A s H locs (wX10 hT aT yT gT) → lv_has ls 14 [(0, .ref hT), (1, .double v1), (3, .double v3), (5, .int v5), (6, .int v6), (7, .int v7), (8, .double v8), (10, .int v10), (11, .int v11)] → fn gT v1 v3 v5 v6 v7 v8 v10 v11 = some q → W p l e R_X10_findPair s m args below meth c H locs 0 0 (MQ below (QD D A (wX10 hT aT yT q.2) q.1) args s 0 0 A) (F0 m 81 ls [])
def S_X10_findPair_57 (l : Launch) (D : Dx) (hT : Nat) (aT : Nat → Nat) (yT : Nat → ClassId) (fn : Gs → UInt64 → UInt64 → Int32 → Int32 → Int32 → Int32 → Int32 → UInt64 → Option (UInt64 × Gs)) : Prop :=
  ∀ {p : Program} {e : Env} {s : State} {m : MethodId} {args : Array Value} {below : List Frame} {meth : Method} {c : Code} {H : Heap} {locs : List Loc} {A : Nat → Prop} {ls : Array Slot} {gT : Gs} {v1 : UInt64} {v3 : UInt64} {v5 : Int32} {v6 : Int32} {v7 : Int32} {v10 : Int32} {v11 : Int32} {v12 : UInt64} {q : UInt64 × Gs}, Cx p s m args meth c cX10_findPair (some .double) 14 RX10 lw_all → Hx D (tX10 yT) A s H locs (wX10 hT aT yT gT) → lv_has ls 14 [(0, .ref hT), (1, .double v1), (3, .double v3), (5, .int v5), (6, .int v6), (7, .int v7), (10, .int v10), (11, .int v11), (12, .double v12)] → fn gT v1 v3 v5 v6 v7 v10 v11 v12 = some q → W p l e R_X10_findPair s m args below meth c H locs 0 0 (MQ below (QD D A (wX10 hT aT yT q.2) q.1) args s 0 0 A) (F0 m 57 ls [])
def S_X10_findPair_20 (l : Launch) (D : Dx) (hT : Nat) (aT : Nat → Nat) (yT : Nat → ClassId) (fn : Gs → UInt64 → UInt64 → Int32 → Int32 → Int32 → UInt64 → Int32 → Int32 → Option (UInt64 × Gs)) : Prop :=
  ∀ {p : Program} {e : Env} {s : State} {m : MethodId} {args : Array Value} {below : List Frame} {meth : Method} {c : Code} {H : Heap} {locs : List Loc} {A : Nat → Prop} {ls : Array Slot} {gT : Gs} {v1 : UInt64} {v3 : UInt64} {v5 : Int32} {v6 : Int32} {v7 : Int32} {v8 : UInt64} {v10 : Int32} {v11 : Int32} {q : UInt64 × Gs}, Cx p s m args meth c cX10_findPair (some .double) 14 RX10 lw_all → Hx D (tX10 yT) A s H locs (wX10 hT aT yT gT) → lv_has ls 14 [(0, .ref hT), (1, .double v1), (3, .double v3), (5, .int v5), (6, .int v6), (7, .int v7), (8, .double v8), (10, .int v10), (11, .int v11)] → fn gT v1 v3 v5 v6 v7 v8 v10 v11 = some q → W p l e R_X10_findPair s m args below meth c H locs 0 0 (MQ below (QD D A (wX10 hT aT yT q.2) q.1) args s 0 0 A) (F0 m 20 ls [])
def S_X10_findPair_9 (l : Launch) (D : Dx) (hT : Nat) (aT : Nat → Nat) (yT : Nat → ClassId) (fn : Gs → UInt64 → UInt64 → Int32 → Int32 → Int32 → UInt64 → Int32 → Option (UInt64 × Gs)) : Prop :=
  ∀ {p : Program} {e : Env} {s : State} {m : MethodId} {args : Array Value} {below : List Frame} {meth : Method} {c : Code} {H : Heap} {locs : List Loc} {A : Nat → Prop} {ls : Array Slot} {gT : Gs} {v1 : UInt64} {v3 : UInt64} {v5 : Int32} {v6 : Int32} {v7 : Int32} {v8 : UInt64} {v10 : Int32} {q : UInt64 × Gs}, Cx p s m args meth c cX10_findPair (some .double) 14 RX10 lw_all → Hx D (tX10 yT) A s H locs (wX10 hT aT yT gT) → lv_has ls 14 [(0, .ref hT), (1, .double v1), (3, .double v3), (5, .int v5), (6, .int v6), (7, .int v7), (8, .double v8), (10, .int v10)] → fn gT v1 v3 v5 v6 v7 v8 v10 = some q → W p l e R_X10_findPair s m args below meth c H locs 0 0 (MQ below (QD D A (wX10 hT aT yT q.2) q.1) args s 0 0 A) (F0 m 9 ls [])
def SH_X10_findPair (l : Launch) (D : Dx) (hT : Nat) (aT : Nat → Nat) (yT : Nat → ClassId) (rec : (Gs → UInt64 → UInt64 → Int32 → Int32 → Int32 → UInt64 → Int32 → Option (UInt64 × Gs)) × (Gs → UInt64 → UInt64 → Int32 → Int32 → Int32 → UInt64 → Int32 → Int32 → Option (UInt64 × Gs))) : Prop := S_X10_findPair_9 l D hT aT yT rec.1 ∧ S_X10_findPair_20 l D hT aT yT rec.2
set_option maxHeartbeats 4000000 in
set_option maxRecDepth 100000 in
theorem k_X10_findPair_81 (l : Launch) (D : Dx) (hT : Nat) (aT : Nat → Nat) (yT : Nat → ClassId) (n : Nat) (rec : (Gs → UInt64 → UInt64 → Int32 → Int32 → Int32 → UInt64 → Int32 → Option (UInt64 × Gs)) × (Gs → UInt64 → UInt64 → Int32 → Int32 → Int32 → UInt64 → Int32 → Int32 → Option (UInt64 × Gs))) (IH : SH_X10_findPair l D hT aT yT rec) : S_X10_findPair_81 l D hT aT yT (b_X10_findPair_81 n rec) := by
  intro p e s m args below meth c H locs A ls gT v1 v3 v5 v6 v7 v8 v10 v11 q C X hl hF
  obtain ⟨hx, hb, hr, hml, hown, hts, hlk⟩ := id C
  unfold b_X10_findPair_81 at hF
  refine lv_iinc (v := v11 + (1 : Int32)) (lv' := [(11, .int (v11 + (1 : Int32))), (0, .ref hT), (1, .double v1), (3, .double v3), (5, .int v5), (6, .int v6), (7, .int v7), (8, .double v8), (10, .int v10)]) hx hb dX10_findPair_81 hl (k := 8) rfl rfl (by decide) rfl (fun ls hl => ?_)
  refine lv_goto (tgt := 20) hx hb dX10_findPair_84 (by decide) ?_
  exact IH.2 C X (lv_sub hl [1, 2, 3, 4, 5, 6, 7, 8, 0] rfl) hF
set_option maxHeartbeats 4000000 in
set_option maxRecDepth 100000 in
theorem k_X10_findPair_57 (l : Launch) (D : Dx) (hT : Nat) (aT : Nat → Nat) (yT : Nat → ClassId) (n : Nat) (rec : (Gs → UInt64 → UInt64 → Int32 → Int32 → Int32 → UInt64 → Int32 → Option (UInt64 × Gs)) × (Gs → UInt64 → UInt64 → Int32 → Int32 → Int32 → UInt64 → Int32 → Int32 → Option (UInt64 × Gs))) (IH : SH_X10_findPair l D hT aT yT rec) : S_X10_findPair_57 l D hT aT yT (b_X10_findPair_57 n rec) := by
  intro p e s m args below meth c H locs A ls gT v1 v3 v5 v6 v7 v10 v11 v12 q C X hl hF
  obtain ⟨hx, hb, hr, hml, hown, hts, hlk⟩ := id C
  unfold b_X10_findPair_57 at hF
  refine lv_dload hx hb dX10_findPair_57 (lv_at hl 8 rfl) ?_
  refine lv_dstore (lv' := [(8, .double v12), (0, .ref hT), (1, .double v1), (3, .double v3), (5, .int v5), (6, .int v6), (7, .int v7), (10, .int v10), (11, .int v11), (12, .double v12)]) hx hb dX10_findPair_59 hl (by decide) rfl (fun ls hl => ?_)
  refine lv_aload_n hx hb dX10_findPair_61 rfl (lv_at hl 1 rfl) ?_
  refine va_get (D := D.1) (ci := 10) (v := .ref (aT 0)) (C := RX10) (T := TX10) (N := 2) hx hb hts wi_X10 hown X.1 X.2.1 0 rfl rfl 0 (by decide) (hts _ q1_186) (fun _ h9 => h9) (fl_get (by decide)) dX10_findPair_62 ?_
  refine lv_iload hx hb dX10_findPair_65 (lv_at hl 6 rfl) ?_
  refine lv_iload hx hb dX10_findPair_67 (lv_at hl 7 rfl) ?_
  obtain ⟨h_6, hF⟩ := grd_some hF
  refine va_iast (D := D.1) (f := gIA gT 0) hx hb X.1 X.2.1 X.2.2.1 X.2.2.2.1 1 0 rfl rfl (inB_ok h_6) dX10_findPair_69 (fun H locs hP hD hS => ?_)
  have X : Hx D (tX10 yT) A s H locs (wX10 hT aT yT (sIA gT 0 (upd (gIA gT 0) v7.toNatClampNeg v10))) := Hx_set X (wG_sIA (i := 0) (k := 0) ndX10 rfl rfl) hP hD hS
  refine lv_aload_n hx hb dX10_findPair_70 rfl (lv_at hl 1 rfl) ?_
  refine va_get (D := D.1) (ci := 10) (v := .ref (aT 0)) (C := RX10) (T := TX10) (N := 2) hx hb hts wi_X10 hown X.1 X.2.1 0 rfl rfl 0 (by decide) (hts _ q1_186) (fun _ h9 => h9) (fl_get (by decide)) dX10_findPair_71 ?_
  refine lv_iload hx hb dX10_findPair_74 (lv_at hl 6 rfl) ?_
  refine lv_iconst (v := (1 : Int32)) hx hb dX10_findPair_76 (by decide) ?_
  refine lv_iadd hx hb dX10_findPair_77 ?_
  refine lv_iload hx hb dX10_findPair_78 (lv_at hl 8 rfl) ?_
  obtain ⟨h_7, hF⟩ := grd_some hF
  refine va_iast (D := D.1) (f := upd (gIA gT 0) v7.toNatClampNeg v10) hx hb X.1 X.2.1 X.2.2.1 X.2.2.2.1 1 0 rfl rfl (inB_ok h_7) dX10_findPair_80 (fun H locs hP hD hS => ?_)
  have X : Hx D (tX10 yT) A s H locs (wX10 hT aT yT (sIA (sIA gT 0 (upd (gIA gT 0) v7.toNatClampNeg v10)) 0 (upd (upd (gIA gT 0) v7.toNatClampNeg v10) (v7 + (1 : Int32)).toNatClampNeg v11))) := Hx_set X (wG_sIA (i := 0) (k := 0) ndX10 rfl rfl) hP hD hS
  exact (k_X10_findPair_81 l D hT aT yT n rec IH) C X (lv_sub hl [1, 2, 3, 4, 5, 6, 0, 7, 8] rfl) hF
set_option maxHeartbeats 4000000 in
set_option maxRecDepth 100000 in
theorem k_X10_findPair_20 (l : Launch) (D : Dx) (hT : Nat) (aT : Nat → Nat) (yT : Nat → ClassId) (n : Nat) (rec : (Gs → UInt64 → UInt64 → Int32 → Int32 → Int32 → UInt64 → Int32 → Option (UInt64 × Gs)) × (Gs → UInt64 → UInt64 → Int32 → Int32 → Int32 → UInt64 → Int32 → Int32 → Option (UInt64 × Gs))) (IH : SH_X10_findPair l D hT aT yT rec) : S_X10_findPair_20 l D hT aT yT (h_X10_findPair_20 n rec) := by
  intro p e s m args below meth c H locs A ls gT v1 v3 v5 v6 v7 v8 v10 v11 q C X hl hF
  obtain ⟨hx, hb, hr, hml, hown, hts, hlk⟩ := id C
  unfold h_X10_findPair_20 at hF
  refine lv_iload hx hb dX10_findPair_20 (lv_at hl 8 rfl) ?_
  refine lv_iload hx hb dX10_findPair_22 (lv_at hl 4 rfl) ?_
  refine lv_icmp_gt (tgt := 87) hx hb dX10_findPair_24 (by decide) (fun c => ?_) (fun c => ?_)
  · replace hF := iT c hF
    refine lv_iinc (v := v10 + (1 : Int32)) (lv' := [(10, .int (v10 + (1 : Int32))), (0, .ref hT), (1, .double v1), (3, .double v3), (5, .int v5), (6, .int v6), (7, .int v7), (8, .double v8), (11, .int v11)]) hx hb dX10_findPair_87 hl (k := 7) rfl rfl (by decide) rfl (fun ls hl => ?_)
    refine lv_goto (tgt := 9) hx hb dX10_findPair_90 (by decide) ?_
    exact IH.1 C X (lv_sub hl [1, 2, 3, 4, 5, 6, 7, 0] rfl) hF
  · replace hF := iF c hF
    refine lv_dload_n hx hb dX10_findPair_27 rfl (lv_at hl 1 rfl) ?_
    refine lv_iload hx hb dX10_findPair_28 (lv_at hl 7 rfl) ?_
    refine lv_iload hx hb dX10_findPair_30 (lv_at hl 8 rfl) ?_
    obtain ⟨q_1, hc_2, hF⟩ := bnd_some hF
    refine cS_d (As := [.int v10, .int v11]) (rest := [.double v1]) C X (c_X10_quotient l D  v10 v11 q_1 hc_2 _) (va_cwS 2 hts (good_S q6_105 q6_106 q1_6 q6_107) rfl rfl rfl (by decide +kernel) ⟨Nat.le_of_ble_eq_true rfl, Nat.le_of_ble_eq_true rfl⟩) (eK X) eP (eD (A := A)) (eF X) hl.1 rfl rfl (Nat.le_of_ble_eq_true rfl) dX10_findPair_32 ⟨Nat.le_of_ble_eq_true rfl, Nat.le_of_ble_eq_true rfl⟩ (fun t H1 locs1 ht hB hk hS => ?_)
    have X := Hx_after_none X hk hS
    clear hk hS ht hB
    generalize H1 = H at X ⊢
    generalize locs1 = locs at X ⊢
    obtain ⟨h_3, hF⟩ := grd_some hF
    refine lv_dmul hx hb dX10_findPair_35 (n64_ok h_3) ?_
    refine lv_dload_n hx hb dX10_findPair_36 rfl (lv_at hl 2 rfl) ?_
    obtain ⟨q_4, hc_5, hF⟩ := bnd_some hF
    refine cS_d (As := [.double (FP.dmul v1 q_1), .double v3]) (rest := []) C X (c_X10_distance l D  (FP.dmul v1 q_1) v3 q_4 hc_5 _) (va_cwS 2 hts (good_S q6_108 q6_109 q1_6 q6_110) rfl rfl rfl (by decide +kernel) ⟨Nat.le_of_ble_eq_true rfl, Nat.le_of_ble_eq_true rfl⟩) (eK X) eP (eD (A := A)) (eF X) hl.1 rfl rfl (Nat.le_of_ble_eq_true rfl) dX10_findPair_37 ⟨Nat.le_of_ble_eq_true rfl, Nat.le_of_ble_eq_true rfl⟩ (fun t H1 locs1 ht hB hk hS => ?_)
    have X := Hx_after_none X hk hS
    clear hk hS ht hB
    generalize H1 = H at X ⊢
    generalize locs1 = locs at X ⊢
    refine lv_dstore (lv' := [(12, .double q_4), (0, .ref hT), (1, .double v1), (3, .double v3), (5, .int v5), (6, .int v6), (7, .int v7), (8, .double v8), (10, .int v10), (11, .int v11)]) hx hb dX10_findPair_40 hl (by decide) rfl (fun ls hl => ?_)
    refine lv_dload hx hb dX10_findPair_42 (lv_at hl 7 rfl) ?_
    refine lv_dconst0 hx hb dX10_findPair_44 ?_
    refine lv_dcmp hx hb dX10_findPair_45 ?_
    refine lv_if_lt (tgt := 57) hx hb dX10_findPair_46 (by decide) (fun c => ?_) (fun c => ?_)
    · replace hF := iT c hF
      exact (k_X10_findPair_57 l D hT aT yT n rec IH) C X (lv_sub hl [1, 2, 3, 4, 5, 6, 8, 9, 0] rfl) hF
    · replace hF := iF c hF
      refine lv_dload hx hb dX10_findPair_49 (lv_at hl 0 rfl) ?_
      refine lv_dload hx hb dX10_findPair_51 (lv_at hl 7 rfl) ?_
      refine lv_dcmp hx hb dX10_findPair_53 ?_
      refine lv_if_ge (tgt := 81) hx hb dX10_findPair_54 (by decide) (fun c => ?_) (fun c => ?_)
      · replace hF := iT c hF
        exact (k_X10_findPair_81 l D hT aT yT n rec IH) C X (lv_sub hl [1, 2, 3, 4, 5, 6, 7, 8, 9] rfl) hF
      · replace hF := iF c hF
        exact (k_X10_findPair_57 l D hT aT yT n rec IH) C X (lv_sub hl [1, 2, 3, 4, 5, 6, 8, 9, 0] rfl) hF
set_option maxHeartbeats 4000000 in
set_option maxRecDepth 100000 in
theorem k_X10_findPair_9 (l : Launch) (D : Dx) (hT : Nat) (aT : Nat → Nat) (yT : Nat → ClassId) (n : Nat) (rec : (Gs → UInt64 → UInt64 → Int32 → Int32 → Int32 → UInt64 → Int32 → Option (UInt64 × Gs)) × (Gs → UInt64 → UInt64 → Int32 → Int32 → Int32 → UInt64 → Int32 → Int32 → Option (UInt64 × Gs))) (IH : SH_X10_findPair l D hT aT yT rec) : S_X10_findPair_9 l D hT aT yT (h_X10_findPair_9 n rec) := by
  intro p e s m args below meth c H locs A ls gT v1 v3 v5 v6 v7 v8 v10 q C X hl hF
  obtain ⟨hx, hb, hr, hml, hown, hts, hlk⟩ := id C
  unfold h_X10_findPair_9 at hF
  refine lv_iload hx hb dX10_findPair_9 (lv_at hl 7 rfl) ?_
  refine lv_iload hx hb dX10_findPair_11 (lv_at hl 4 rfl) ?_
  refine lv_icmp_gt (tgt := 93) hx hb dX10_findPair_13 (by decide) (fun c => ?_) (fun c => ?_)
  · replace hF := iT c hF
    refine lv_dload hx hb dX10_findPair_93 (lv_at hl 6 rfl) ?_
    have hq := Option.some.inj hF
    subst hq
    exact rt_d C X dX10_findPair_95
  · replace hF := iF c hF
    refine lv_iload hx hb dX10_findPair_16 (lv_at hl 3 rfl) ?_
    refine lv_istore (lv' := [(11, .int v5), (0, .ref hT), (1, .double v1), (3, .double v3), (5, .int v5), (6, .int v6), (7, .int v7), (8, .double v8), (10, .int v10)]) hx hb dX10_findPair_18 hl (by decide) rfl (fun ls hl => ?_)
    exact IH.2 C X (lv_sub hl [1, 2, 3, 4, 5, 6, 7, 8, 0] rfl) hF
theorem kL_X10_findPair (l : Launch) (D : Dx) (hT : Nat) (aT : Nat → Nat) (yT : Nat → ClassId) (n : Nat) : ∀ k, SH_X10_findPair l D hT aT yT (L_X10_findPair n k)
  | 0 => ⟨(fun _ _ _ h => by cases h), (fun _ _ _ h => by cases h)⟩
  | k + 1 => ⟨k_X10_findPair_9 l D hT aT yT n _ (kL_X10_findPair l D hT aT yT n k), k_X10_findPair_20 l D hT aT yT n _ (kL_X10_findPair l D hT aT yT n k)⟩
set_option maxHeartbeats 4000000 in
set_option maxRecDepth 100000 in
theorem c_X10_findPair (l : Launch) (D : Dx) (hT : Nat) (aT : Nat → Nat) (yT : Nat → ClassId) (n : Nat) (gT : Gs) (x0 : UInt64) (x1 : UInt64) (x2 : Int32) (x3 : Int32) (x4 : Int32) (q : UInt64 × Gs) (hF : f_X10_findPair n gT x0 x1 x2 x3 x4 = some q) (sz : Nat) : Met l yX10_findPair (ws_ yX10_findPair cX10_findPair 14 (some .double)) R_X10_findPair (PC D (tX10 yT) [.ref hT, .double x0, .double x1, .int x2, .int x3, .int x4] (wX10 hT aT yT gT) sz) (QD D (va_A (wX10 hT aT yT gT) sz) (wX10 hT aT yT q.2) q.1) 0 0 (va_A (wX10 hT aT yT gT) sz) := by
  refine Met.ofW (cc := cX10_findPair) (maxL := 14) (ret := (some .double)) (by decide) rfl ?_
  intro p e s m args below meth c s₁ B hml hv
  obtain ⟨rfl, hsz, hP, hK, hD, hN⟩ := hv
  subst hsz
  have C : Cx p s m _ meth c cX10_findPair (some .double) 14 RX10 lw_all := Cx_of B hml
  have X := Hx_start hP hK hD hN
  obtain ⟨hx, hb, hr, -, hown, hts, hlk⟩ := id C
  generalize va_A (wX10 hT aT yT gT) s.heap.size = A at X ⊢
  have hl := lv_entry ([.ref hT, .double x0, .double x1, .int x2, .int x3, .int x4]) (n := 14) (Nat.le_of_ble_eq_true rfl)
  rw [lg_entry_eq]
  generalize (lg_sl ([.ref hT, .double x0, .double x1, .int x2, .int x3, .int x4]) ++ List.replicate (14 - (lg_sl ([.ref hT, .double x0, .double x1, .int x2, .int x3, .int x4])).length) Slot.unset).toArray = ls at hl ⊢
  have hl : lv_has ls 14 [(0, .ref hT), (1, .double x0), (3, .double x1), (5, .int x2), (6, .int x3), (7, .int x4)] := hl
  unfold f_X10_findPair at hF
  refine lv_ldc2d hx hb hown (hts _ q6_104) dX10_findPair_0 ?_
  refine lv_dstore (lv' := [(8, .double (13830554455654793216 : UInt64)), (0, .ref hT), (1, .double x0), (3, .double x1), (5, .int x2), (6, .int x3), (7, .int x4)]) hx hb dX10_findPair_3 hl (by decide) rfl (fun ls hl => ?_)
  refine lv_iload hx hb dX10_findPair_5 (lv_at hl 4 rfl) ?_
  refine lv_istore (lv' := [(10, .int x2), (8, .double (13830554455654793216 : UInt64)), (0, .ref hT), (1, .double x0), (3, .double x1), (5, .int x2), (6, .int x3), (7, .int x4)]) hx hb dX10_findPair_7 hl (by decide) rfl (fun ls hl => ?_)
  exact (kL_X10_findPair l D hT aT yT n n).1 C X (lv_sub hl [2, 3, 4, 5, 6, 7, 1, 0] rfl) hF

/-! ### X10_findOne -/
theorem dX10_findOne_0 : decode cX10_findOne 0 = .ok (.aload_n 0, 1) := by decide +kernel
theorem dX10_findOne_1 : decode cX10_findOne 1 = .ok (.iconst 2, 1) := by decide +kernel
theorem dX10_findOne_2 : decode cX10_findOne 2 = .ok (.putfield 13, 3) := by decide +kernel
theorem dX10_findOne_5 : decode cX10_findOne 5 = .ok (.aload_n 0, 1) := by decide +kernel
theorem dX10_findOne_6 : decode cX10_findOne 6 = .ok (.dconst 1, 1) := by decide +kernel
theorem dX10_findOne_7 : decode cX10_findOne 7 = .ok (.dload_n 1, 1) := by decide +kernel
theorem dX10_findOne_8 : decode cX10_findOne 8 = .ok (.iload_n 3, 1) := by decide +kernel
theorem dX10_findOne_9 : decode cX10_findOne 9 = .ok (.iload 4, 2) := by decide +kernel
theorem dX10_findOne_11 : decode cX10_findOne 11 = .ok (.iconst 0, 1) := by decide +kernel
theorem dX10_findOne_12 : decode cX10_findOne 12 = .ok (.invokevirtual 17, 3) := by decide +kernel
theorem dX10_findOne_15 : decode cX10_findOne 15 = .ok (.dreturn, 1) := by decide +kernel
abbrev R_X10_findOne : Room := ({ frames := 2, cells := 0, slots := 0, locals := 58 } : Room)
def f_X10_findOne (n : Nat) (gT : Gs) (x0 : UInt64) (x1 : Int32) (x2 : Int32) : Option (UInt64 × Gs) :=
  bnd (f_X10_findPair n (sI gT 1 (2 : Int32)) FP.dconst1 x0 x1 x2 (0 : Int32)) (fun q_1 => some (q_1.1, q_1.2))
set_option maxHeartbeats 4000000 in
set_option maxRecDepth 100000 in
theorem c_X10_findOne (l : Launch) (D : Dx) (hT : Nat) (aT : Nat → Nat) (yT : Nat → ClassId) (n : Nat) (gT : Gs) (x0 : UInt64) (x1 : Int32) (x2 : Int32) (q : UInt64 × Gs) (hF : f_X10_findOne n gT x0 x1 x2 = some q) (sz : Nat) : Met l yX10_findOne (ws_ yX10_findOne cX10_findOne 5 (some .double)) R_X10_findOne (PC D (tX10 yT) [.ref hT, .double x0, .int x1, .int x2] (wX10 hT aT yT gT) sz) (QD D (va_A (wX10 hT aT yT gT) sz) (wX10 hT aT yT q.2) q.1) 0 0 (va_A (wX10 hT aT yT gT) sz) := by
  refine Met.ofW (cc := cX10_findOne) (maxL := 5) (ret := (some .double)) (by decide) rfl ?_
  intro p e s m args below meth c s₁ B hml hv
  obtain ⟨rfl, hsz, hP, hK, hD, hN⟩ := hv
  subst hsz
  have C : Cx p s m _ meth c cX10_findOne (some .double) 5 RX10 lw_all := Cx_of B hml
  have X := Hx_start hP hK hD hN
  obtain ⟨hx, hb, hr, -, hown, hts, hlk⟩ := id C
  generalize va_A (wX10 hT aT yT gT) s.heap.size = A at X ⊢
  have hl := lv_entry ([.ref hT, .double x0, .int x1, .int x2]) (n := 5) (Nat.le_of_ble_eq_true rfl)
  rw [lg_entry_eq]
  generalize (lg_sl ([.ref hT, .double x0, .int x1, .int x2]) ++ List.replicate (5 - (lg_sl ([.ref hT, .double x0, .int x1, .int x2])).length) Slot.unset).toArray = ls at hl ⊢
  have hl : lv_has ls 5 [(0, .ref hT), (1, .double x0), (3, .int x1), (4, .int x2)] := hl
  unfold f_X10_findOne at hF
  refine lv_aload_n hx hb dX10_findOne_0 rfl (lv_at hl 0 rfl) ?_
  refine lv_iconst (v := (2 : Int32)) hx hb dX10_findOne_1 (by decide) ?_
  refine va_put (D := D.1) (ci := 10) (v := .int (2 : Int32)) (ty := .int) (C := RX10) (T := TX10) (N := 2) hx hb hts wi_X10 tyX10 tyX10_ok nmX10 hown X.1 X.2.1 X.2.2.1 X.2.2.2.1 0 rfl rfl 1 (by decide) (hts _ q1_188) (fun _ h9 => h9) rfl (by decide +kernel) rfl rfl (by rw [List.length_map, List.length_range]; decide) dX10_findOne_2 (fun H locs hP hD hS => ?_)
  have X : Hx D (tX10 yT) A s H locs (wX10 hT aT yT (sI gT 1 (2 : Int32))) := Hx_set X (wG_sI (k := 1) rfl) hP hD hS
  refine lv_aload_n hx hb dX10_findOne_5 rfl (lv_at hl 0 rfl) ?_
  refine lv_dconst1 hx hb dX10_findOne_6 ?_
  refine lv_dload_n hx hb dX10_findOne_7 rfl (lv_at hl 1 rfl) ?_
  refine lv_iload_n hx hb dX10_findOne_8 rfl (lv_at hl 2 rfl) ?_
  refine lv_iload hx hb dX10_findOne_9 (lv_at hl 3 rfl) ?_
  refine lv_iconst (v := (0 : Int32)) hx hb dX10_findOne_11 (by decide) ?_
  obtain ⟨q_1, hc_2, hF⟩ := bnd_some hF
  refine cV_d (As := [.double FP.dconst1, .double x0, .int x1, .int x2, .int (0 : Int32)]) (rest := []) C X (c_X10_findPair l D hT aT yT n (sI gT 1 (2 : Int32)) FP.dconst1 x0 x1 x2 (0 : Int32) q_1 hc_2 _) (cwV 5 hts (good_V q6_100 q6_102 q0_64 q1_6 q6_103) rfl rfl rfl (by decide +kernel) ⟨Nat.le_of_ble_eq_true rfl, Nat.le_of_ble_eq_true rfl⟩) (va_recv X.1 X.2.1 (ci := 10) (q0 := 0) rfl rfl) X.1 X.2.1 X.2.2.1 (free_all X) hl.1 rfl rfl (Nat.le_of_ble_eq_true rfl) dX10_findOne_12 ⟨Nat.le_of_ble_eq_true rfl, Nat.le_of_ble_eq_true rfl⟩ (fun t H1 locs1 ht hB hk hS => ?_)
  have X : Hx D (tX10 yT) A s H1 locs1 (wX10 hT aT yT q_1.2) := Hx_after_all X ht hB hS
  clear hk hS ht hB
  generalize H1 = H at X ⊢
  generalize locs1 = locs at X ⊢
  have hq := Option.some.inj hF
  subst hq
  exact rt_d C X dX10_findOne_15

/-! ### X10_nearest -/
theorem dX10_nearest_0 : decode cX10_nearest 0 = .ok (.iload 4, 2) := by decide +kernel
theorem dX10_nearest_2 : decode cX10_nearest 2 = .ok (.istore 6, 2) := by decide +kernel
theorem dX10_nearest_4 : decode cX10_nearest 4 = .ok (.iload 4, 2) := by decide +kernel
theorem dX10_nearest_6 : decode cX10_nearest 6 = .ok (.istore 7, 2) := by decide +kernel
theorem dX10_nearest_8 : decode cX10_nearest 8 = .ok (.ldc2_w 21, 3) := by decide +kernel
theorem dX10_nearest_11 : decode cX10_nearest 11 = .ok (.dstore 8, 2) := by decide +kernel
theorem dX10_nearest_13 : decode cX10_nearest 13 = .ok (.iload 6, 2) := by decide +kernel
theorem dX10_nearest_15 : decode cX10_nearest 15 = .ok (.iload 5, 2) := by decide +kernel
theorem dX10_nearest_17 : decode cX10_nearest 17 = .ok (.if_icmp .gt 67, 3) := by decide +kernel
theorem dX10_nearest_20 : decode cX10_nearest 20 = .ok (.iload 7, 2) := by decide +kernel
theorem dX10_nearest_22 : decode cX10_nearest 22 = .ok (.iload 5, 2) := by decide +kernel
theorem dX10_nearest_24 : decode cX10_nearest 24 = .ok (.if_icmp .gt 60, 3) := by decide +kernel
theorem dX10_nearest_27 : decode cX10_nearest 27 = .ok (.dload_n 0, 1) := by decide +kernel
theorem dX10_nearest_28 : decode cX10_nearest 28 = .ok (.iload 6, 2) := by decide +kernel
theorem dX10_nearest_30 : decode cX10_nearest 30 = .ok (.iload 7, 2) := by decide +kernel
theorem dX10_nearest_32 : decode cX10_nearest 32 = .ok (.invokestatic 23, 3) := by decide +kernel
theorem dX10_nearest_35 : decode cX10_nearest 35 = .ok (.dmul, 1) := by decide +kernel
theorem dX10_nearest_36 : decode cX10_nearest 36 = .ok (.dstore 10, 2) := by decide +kernel
theorem dX10_nearest_38 : decode cX10_nearest 38 = .ok (.dload 10, 2) := by decide +kernel
theorem dX10_nearest_40 : decode cX10_nearest 40 = .ok (.dload_n 2, 1) := by decide +kernel
theorem dX10_nearest_41 : decode cX10_nearest 41 = .ok (.invokestatic 27, 3) := by decide +kernel
theorem dX10_nearest_44 : decode cX10_nearest 44 = .ok (.dstore 12, 2) := by decide +kernel
theorem dX10_nearest_46 : decode cX10_nearest 46 = .ok (.dload 8, 2) := by decide +kernel
theorem dX10_nearest_48 : decode cX10_nearest 48 = .ok (.dconst 0, 1) := by decide +kernel
theorem dX10_nearest_49 : decode cX10_nearest 49 = .ok (.dcmp .g, 1) := by decide +kernel
theorem dX10_nearest_50 : decode cX10_nearest 50 = .ok (.ifCond .lt 11, 3) := by decide +kernel
theorem dX10_nearest_53 : decode cX10_nearest 53 = .ok (.dload 12, 2) := by decide +kernel
theorem dX10_nearest_55 : decode cX10_nearest 55 = .ok (.dload 8, 2) := by decide +kernel
theorem dX10_nearest_57 : decode cX10_nearest 57 = .ok (.dcmp .g, 1) := by decide +kernel
theorem dX10_nearest_58 : decode cX10_nearest 58 = .ok (.ifCond .ge 7, 3) := by decide +kernel
theorem dX10_nearest_61 : decode cX10_nearest 61 = .ok (.dload 12, 2) := by decide +kernel
theorem dX10_nearest_63 : decode cX10_nearest 63 = .ok (.dstore 8, 2) := by decide +kernel
theorem dX10_nearest_65 : decode cX10_nearest 65 = .ok (.dload 10, 2) := by decide +kernel
theorem dX10_nearest_67 : decode cX10_nearest 67 = .ok (.dload_n 2, 1) := by decide +kernel
theorem dX10_nearest_68 : decode cX10_nearest 68 = .ok (.dcmp .l, 1) := by decide +kernel
theorem dX10_nearest_69 : decode cX10_nearest 69 = .ok (.ifCond .le 9, 3) := by decide +kernel
theorem dX10_nearest_72 : decode cX10_nearest 72 = .ok (.iinc 7 1, 3) := by decide +kernel
theorem dX10_nearest_75 : decode cX10_nearest 75 = .ok (.goto 6, 3) := by decide +kernel
theorem dX10_nearest_78 : decode cX10_nearest 78 = .ok (.iinc 6 1, 3) := by decide +kernel
theorem dX10_nearest_81 : decode cX10_nearest 81 = .ok (.goto (-68), 3) := by decide +kernel
theorem dX10_nearest_84 : decode cX10_nearest 84 = .ok (.dload 8, 2) := by decide +kernel
theorem dX10_nearest_86 : decode cX10_nearest 86 = .ok (.dreturn, 1) := by decide +kernel
abbrev R_X10_nearest : Room := ({ frames := 1, cells := 0, slots := 0, locals := 25 } : Room)
def b_X10_nearest_81 (n : Nat) (rec : (UInt64 → UInt64 → Int32 → Int32 → Int32 → UInt64 → Option (UInt64))) (v0 : UInt64) (v2 : UInt64) (v5 : Int32) (v6 : Int32) (v7 : Int32) (v8 : UInt64) : Option (UInt64) :=
  rec v0 v2 v5 v6 v7 v8
def b_X10_nearest_65 (n : Nat) (rec : (UInt64 → UInt64 → Int32 → Int32 → Int32 → UInt64 → Option (UInt64))) (v0 : UInt64) (v2 : UInt64) (v5 : Int32) (v6 : Int32) (v7 : Int32) (v8 : UInt64) (v10 : UInt64) : Option (UInt64) :=
  if (Op.cmpValue (FP.dcmp v10 v2) .l) ≤ 0 then (b_X10_nearest_81 n rec v0 v2 v5 (v6 + (1 : Int32)) v7 v8) else (b_X10_nearest_81 n rec v0 v2 v5 v6 (v7 + (1 : Int32)) v8)
def b_X10_nearest_61 (n : Nat) (rec : (UInt64 → UInt64 → Int32 → Int32 → Int32 → UInt64 → Option (UInt64))) (v0 : UInt64) (v2 : UInt64) (v5 : Int32) (v6 : Int32) (v7 : Int32) (v10 : UInt64) (v12 : UInt64) : Option (UInt64) :=
  b_X10_nearest_65 n rec v0 v2 v5 v6 v7 v12 v10
def h_X10_nearest_13 (n : Nat) (rec : (UInt64 → UInt64 → Int32 → Int32 → Int32 → UInt64 → Option (UInt64))) (v0 : UInt64) (v2 : UInt64) (v5 : Int32) (v6 : Int32) (v7 : Int32) (v8 : UInt64) : Option (UInt64) :=
  if v5 < v6 then (some v8) else (if v5 < v7 then (some v8) else (bnd (f_X10_quotient v6 v7) (fun q_1 => grd (n64 (FP.dmul v0 q_1)) (bnd (f_X10_distance (FP.dmul v0 q_1) v2) (fun q_4 => if (Op.cmpValue (FP.dcmp v8 FP.dconst0) .g) < 0 then (b_X10_nearest_61 n rec v0 v2 v5 v6 v7 (FP.dmul v0 q_1) q_4) else (if 0 ≤ (Op.cmpValue (FP.dcmp q_4 v8) .g) then (b_X10_nearest_65 n rec v0 v2 v5 v6 v7 v8 (FP.dmul v0 q_1)) else (b_X10_nearest_61 n rec v0 v2 v5 v6 v7 (FP.dmul v0 q_1) q_4)))))))
def L_X10_nearest (n : Nat) : Nat → (UInt64 → UInt64 → Int32 → Int32 → Int32 → UInt64 → Option (UInt64))
  | 0 => ((fun _ _ _ _ _ _ => none))
  | k + 1 => (h_X10_nearest_13 n (L_X10_nearest n k))
def f_X10_nearest (n : Nat) (x0 : UInt64) (x1 : UInt64) (x2 : Int32) (x3 : Int32) : Option (UInt64) :=
  (L_X10_nearest n n) x0 x1 x3 x2 x2 (13830554455654793216 : UInt64)
def S_X10_nearest_81 (l : Launch) (D : Dx) (fn : UInt64 → UInt64 → Int32 → Int32 → Int32 → UInt64 → Option (UInt64)) : Prop :=
  ∀ {p : Program} {e : Env} {s : State} {m : MethodId} {args : Array Value} {below : List Frame} {meth : Method} {c : Code} {H : Heap} {locs : List Loc} {A : Nat → Prop} {ls : Array Slot} {v0 : UInt64} {v2 : UInt64} {v5 : Int32} {v6 : Int32} {v7 : Int32} {v8 : UInt64} {q : UInt64}, Cx p s m args meth c cX10_nearest (some .double) 14 RX10 lw_all → Hx D ([]) A s H locs ([]) → lv_has ls 14 [(0, .double v0), (2, .double v2), (5, .int v5), (6, .int v6), (7, .int v7), (8, .double v8)] → fn v0 v2 v5 v6 v7 v8 = some q → W p l e R_X10_nearest s m args below meth c H locs 0 0 (MQ below (QD D A ([]) q) args s 0 0 A) (F0 m 81 ls [])
def S_X10_nearest_65 (l : Launch) (D : Dx) (fn : UInt64 → UInt64 → Int32 → Int32 → Int32 → UInt64 → UInt64 → Option (UInt64)) : Prop :=
  ∀ {p : Program} {e : Env} {s : State} {m : MethodId} {args : Array Value} {below : List Frame} {meth : Method} {c : Code} {H : Heap} {locs : List Loc} {A : Nat → Prop} {ls : Array Slot} {v0 : UInt64} {v2 : UInt64} {v5 : Int32} {v6 : Int32} {v7 : Int32} {v8 : UInt64} {v10 : UInt64} {q : UInt64}, Cx p s m args meth c cX10_nearest (some .double) 14 RX10 lw_all → Hx D ([]) A s H locs ([]) → lv_has ls 14 [(0, .double v0), (2, .double v2), (5, .int v5), (6, .int v6), (7, .int v7), (8, .double v8), (10, .double v10)] → fn v0 v2 v5 v6 v7 v8 v10 = some q → W p l e R_X10_nearest s m args below meth c H locs 0 0 (MQ below (QD D A ([]) q) args s 0 0 A) (F0 m 65 ls [])
def S_X10_nearest_61 (l : Launch) (D : Dx) (fn : UInt64 → UInt64 → Int32 → Int32 → Int32 → UInt64 → UInt64 → Option (UInt64)) : Prop :=
  ∀ {p : Program} {e : Env} {s : State} {m : MethodId} {args : Array Value} {below : List Frame} {meth : Method} {c : Code} {H : Heap} {locs : List Loc} {A : Nat → Prop} {ls : Array Slot} {v0 : UInt64} {v2 : UInt64} {v5 : Int32} {v6 : Int32} {v7 : Int32} {v10 : UInt64} {v12 : UInt64} {q : UInt64}, Cx p s m args meth c cX10_nearest (some .double) 14 RX10 lw_all → Hx D ([]) A s H locs ([]) → lv_has ls 14 [(0, .double v0), (2, .double v2), (5, .int v5), (6, .int v6), (7, .int v7), (10, .double v10), (12, .double v12)] → fn v0 v2 v5 v6 v7 v10 v12 = some q → W p l e R_X10_nearest s m args below meth c H locs 0 0 (MQ below (QD D A ([]) q) args s 0 0 A) (F0 m 61 ls [])
def S_X10_nearest_13 (l : Launch) (D : Dx) (fn : UInt64 → UInt64 → Int32 → Int32 → Int32 → UInt64 → Option (UInt64)) : Prop :=
  ∀ {p : Program} {e : Env} {s : State} {m : MethodId} {args : Array Value} {below : List Frame} {meth : Method} {c : Code} {H : Heap} {locs : List Loc} {A : Nat → Prop} {ls : Array Slot} {v0 : UInt64} {v2 : UInt64} {v5 : Int32} {v6 : Int32} {v7 : Int32} {v8 : UInt64} {q : UInt64}, Cx p s m args meth c cX10_nearest (some .double) 14 RX10 lw_all → Hx D ([]) A s H locs ([]) → lv_has ls 14 [(0, .double v0), (2, .double v2), (5, .int v5), (6, .int v6), (7, .int v7), (8, .double v8)] → fn v0 v2 v5 v6 v7 v8 = some q → W p l e R_X10_nearest s m args below meth c H locs 0 0 (MQ below (QD D A ([]) q) args s 0 0 A) (F0 m 13 ls [])
def SH_X10_nearest (l : Launch) (D : Dx) (rec : (UInt64 → UInt64 → Int32 → Int32 → Int32 → UInt64 → Option (UInt64))) : Prop := S_X10_nearest_13 l D rec
set_option maxHeartbeats 4000000 in
set_option maxRecDepth 100000 in
theorem k_X10_nearest_81 (l : Launch) (D : Dx) (n : Nat) (rec : (UInt64 → UInt64 → Int32 → Int32 → Int32 → UInt64 → Option (UInt64))) (IH : SH_X10_nearest l D rec) : S_X10_nearest_81 l D (b_X10_nearest_81 n rec) := by
  intro p e s m args below meth c H locs A ls v0 v2 v5 v6 v7 v8 q C X hl hF
  obtain ⟨hx, hb, hr, hml, hown, hts, hlk⟩ := id C
  unfold b_X10_nearest_81 at hF
  refine lv_goto (tgt := 13) hx hb dX10_nearest_81 (by decide) ?_
  exact IH C X (lv_sub hl [0, 1, 2, 3, 4, 5] rfl) hF
set_option maxHeartbeats 4000000 in
set_option maxRecDepth 100000 in
theorem k_X10_nearest_65 (l : Launch) (D : Dx) (n : Nat) (rec : (UInt64 → UInt64 → Int32 → Int32 → Int32 → UInt64 → Option (UInt64))) (IH : SH_X10_nearest l D rec) : S_X10_nearest_65 l D (b_X10_nearest_65 n rec) := by
  intro p e s m args below meth c H locs A ls v0 v2 v5 v6 v7 v8 v10 q C X hl hF
  obtain ⟨hx, hb, hr, hml, hown, hts, hlk⟩ := id C
  unfold b_X10_nearest_65 at hF
  refine lv_dload hx hb dX10_nearest_65 (lv_at hl 6 rfl) ?_
  refine lv_dload_n hx hb dX10_nearest_67 rfl (lv_at hl 1 rfl) ?_
  refine lv_dcmp hx hb dX10_nearest_68 ?_
  refine lv_if_le (tgt := 78) hx hb dX10_nearest_69 (by decide) (fun c => ?_) (fun c => ?_)
  · replace hF := iT c hF
    refine lv_iinc (v := v6 + (1 : Int32)) (lv' := [(6, .int (v6 + (1 : Int32))), (0, .double v0), (2, .double v2), (5, .int v5), (7, .int v7), (8, .double v8), (10, .double v10)]) hx hb dX10_nearest_78 hl (k := 3) rfl rfl (by decide) rfl (fun ls hl => ?_)
    exact (k_X10_nearest_81 l D  n rec IH) C X (lv_sub hl [1, 2, 3, 0, 4, 5] rfl) hF
  · replace hF := iF c hF
    refine lv_iinc (v := v7 + (1 : Int32)) (lv' := [(7, .int (v7 + (1 : Int32))), (0, .double v0), (2, .double v2), (5, .int v5), (6, .int v6), (8, .double v8), (10, .double v10)]) hx hb dX10_nearest_72 hl (k := 4) rfl rfl (by decide) rfl (fun ls hl => ?_)
    refine lv_goto (tgt := 81) hx hb dX10_nearest_75 (by decide) ?_
    exact (k_X10_nearest_81 l D  n rec IH) C X (lv_sub hl [1, 2, 3, 4, 0, 5] rfl) hF
set_option maxHeartbeats 4000000 in
set_option maxRecDepth 100000 in
theorem k_X10_nearest_61 (l : Launch) (D : Dx) (n : Nat) (rec : (UInt64 → UInt64 → Int32 → Int32 → Int32 → UInt64 → Option (UInt64))) (IH : SH_X10_nearest l D rec) : S_X10_nearest_61 l D (b_X10_nearest_61 n rec) := by
  intro p e s m args below meth c H locs A ls v0 v2 v5 v6 v7 v10 v12 q C X hl hF
  obtain ⟨hx, hb, hr, hml, hown, hts, hlk⟩ := id C
  unfold b_X10_nearest_61 at hF
  refine lv_dload hx hb dX10_nearest_61 (lv_at hl 6 rfl) ?_
  refine lv_dstore (lv' := [(8, .double v12), (0, .double v0), (2, .double v2), (5, .int v5), (6, .int v6), (7, .int v7), (10, .double v10), (12, .double v12)]) hx hb dX10_nearest_63 hl (by decide) rfl (fun ls hl => ?_)
  exact (k_X10_nearest_65 l D  n rec IH) C X (lv_sub hl [1, 2, 3, 4, 5, 0, 6] rfl) hF
set_option maxHeartbeats 4000000 in
set_option maxRecDepth 100000 in
theorem k_X10_nearest_13 (l : Launch) (D : Dx) (n : Nat) (rec : (UInt64 → UInt64 → Int32 → Int32 → Int32 → UInt64 → Option (UInt64))) (IH : SH_X10_nearest l D rec) : S_X10_nearest_13 l D (h_X10_nearest_13 n rec) := by
  intro p e s m args below meth c H locs A ls v0 v2 v5 v6 v7 v8 q C X hl hF
  obtain ⟨hx, hb, hr, hml, hown, hts, hlk⟩ := id C
  unfold h_X10_nearest_13 at hF
  refine lv_iload hx hb dX10_nearest_13 (lv_at hl 3 rfl) ?_
  refine lv_iload hx hb dX10_nearest_15 (lv_at hl 2 rfl) ?_
  refine lv_icmp_gt (tgt := 84) hx hb dX10_nearest_17 (by decide) (fun c => ?_) (fun c => ?_)
  · replace hF := iT c hF
    refine lv_dload hx hb dX10_nearest_84 (lv_at hl 5 rfl) ?_
    have hq := Option.some.inj hF
    subst hq
    exact rt_d C X dX10_nearest_86
  · replace hF := iF c hF
    refine lv_iload hx hb dX10_nearest_20 (lv_at hl 4 rfl) ?_
    refine lv_iload hx hb dX10_nearest_22 (lv_at hl 2 rfl) ?_
    refine lv_icmp_gt (tgt := 84) hx hb dX10_nearest_24 (by decide) (fun c => ?_) (fun c => ?_)
    · replace hF := iT c hF
      refine lv_dload hx hb dX10_nearest_84 (lv_at hl 5 rfl) ?_
      have hq := Option.some.inj hF
      subst hq
      exact rt_d C X dX10_nearest_86
    · replace hF := iF c hF
      refine lv_dload_n hx hb dX10_nearest_27 rfl (lv_at hl 0 rfl) ?_
      refine lv_iload hx hb dX10_nearest_28 (lv_at hl 3 rfl) ?_
      refine lv_iload hx hb dX10_nearest_30 (lv_at hl 4 rfl) ?_
      obtain ⟨q_1, hc_2, hF⟩ := bnd_some hF
      refine cS_d (As := [.int v6, .int v7]) (rest := [.double v0]) C X (c_X10_quotient l D  v6 v7 q_1 hc_2 _) (va_cwS 2 hts (good_S q6_105 q6_106 q1_6 q6_107) rfl rfl rfl (by decide +kernel) ⟨Nat.le_of_ble_eq_true rfl, Nat.le_of_ble_eq_true rfl⟩) (eK X) eP (eD (A := A)) (eF X) hl.1 rfl rfl (Nat.le_of_ble_eq_true rfl) dX10_nearest_32 ⟨Nat.le_of_ble_eq_true rfl, Nat.le_of_ble_eq_true rfl⟩ (fun t H1 locs1 ht hB hk hS => ?_)
      have X := Hx_after_none X hk hS
      clear hk hS ht hB
      generalize H1 = H at X ⊢
      generalize locs1 = locs at X ⊢
      obtain ⟨h_3, hF⟩ := grd_some hF
      refine lv_dmul hx hb dX10_nearest_35 (n64_ok h_3) ?_
      refine lv_dstore (lv' := [(10, .double (FP.dmul v0 q_1)), (0, .double v0), (2, .double v2), (5, .int v5), (6, .int v6), (7, .int v7), (8, .double v8)]) hx hb dX10_nearest_36 hl (by decide) rfl (fun ls hl => ?_)
      refine lv_dload hx hb dX10_nearest_38 (lv_at hl 0 rfl) ?_
      refine lv_dload_n hx hb dX10_nearest_40 rfl (lv_at hl 2 rfl) ?_
      obtain ⟨q_4, hc_5, hF⟩ := bnd_some hF
      refine cS_d (As := [.double (FP.dmul v0 q_1), .double v2]) (rest := []) C X (c_X10_distance l D  (FP.dmul v0 q_1) v2 q_4 hc_5 _) (va_cwS 2 hts (good_S q6_108 q6_109 q1_6 q6_110) rfl rfl rfl (by decide +kernel) ⟨Nat.le_of_ble_eq_true rfl, Nat.le_of_ble_eq_true rfl⟩) (eK X) eP (eD (A := A)) (eF X) hl.1 rfl rfl (Nat.le_of_ble_eq_true rfl) dX10_nearest_41 ⟨Nat.le_of_ble_eq_true rfl, Nat.le_of_ble_eq_true rfl⟩ (fun t H1 locs1 ht hB hk hS => ?_)
      have X := Hx_after_none X hk hS
      clear hk hS ht hB
      generalize H1 = H at X ⊢
      generalize locs1 = locs at X ⊢
      refine lv_dstore (lv' := [(12, .double q_4), (10, .double (FP.dmul v0 q_1)), (0, .double v0), (2, .double v2), (5, .int v5), (6, .int v6), (7, .int v7), (8, .double v8)]) hx hb dX10_nearest_44 hl (by decide) rfl (fun ls hl => ?_)
      refine lv_dload hx hb dX10_nearest_46 (lv_at hl 7 rfl) ?_
      refine lv_dconst0 hx hb dX10_nearest_48 ?_
      refine lv_dcmp hx hb dX10_nearest_49 ?_
      refine lv_if_lt (tgt := 61) hx hb dX10_nearest_50 (by decide) (fun c => ?_) (fun c => ?_)
      · replace hF := iT c hF
        exact (k_X10_nearest_61 l D  n rec IH) C X (lv_sub hl [2, 3, 4, 5, 6, 1, 0] rfl) hF
      · replace hF := iF c hF
        refine lv_dload hx hb dX10_nearest_53 (lv_at hl 0 rfl) ?_
        refine lv_dload hx hb dX10_nearest_55 (lv_at hl 7 rfl) ?_
        refine lv_dcmp hx hb dX10_nearest_57 ?_
        refine lv_if_ge (tgt := 65) hx hb dX10_nearest_58 (by decide) (fun c => ?_) (fun c => ?_)
        · replace hF := iT c hF
          exact (k_X10_nearest_65 l D  n rec IH) C X (lv_sub hl [2, 3, 4, 5, 6, 7, 1] rfl) hF
        · replace hF := iF c hF
          exact (k_X10_nearest_61 l D  n rec IH) C X (lv_sub hl [2, 3, 4, 5, 6, 1, 0] rfl) hF
theorem kL_X10_nearest (l : Launch) (D : Dx) (n : Nat) : ∀ k, SH_X10_nearest l D (L_X10_nearest n k)
  | 0 => fun _ _ _ h => by cases h
  | k + 1 => k_X10_nearest_13 l D n _ (kL_X10_nearest l D n k)
set_option maxHeartbeats 4000000 in
set_option maxRecDepth 100000 in
theorem c_X10_nearest (l : Launch) (D : Dx) (n : Nat) (x0 : UInt64) (x1 : UInt64) (x2 : Int32) (x3 : Int32) (q : UInt64) (hF : f_X10_nearest n x0 x1 x2 x3 = some q) (sz : Nat) : Met l yX10_nearest (ws_ yX10_nearest cX10_nearest 14 (some .double)) R_X10_nearest (PC D ([]) [.double x0, .double x1, .int x2, .int x3] ([]) sz) (QD D (va_A ([]) sz) ([]) q) 0 0 (va_A ([]) sz) := by
  refine Met.ofW (cc := cX10_nearest) (maxL := 14) (ret := (some .double)) (by decide) rfl ?_
  intro p e s m args below meth c s₁ B hml hv
  obtain ⟨rfl, hsz, hP, hK, hD, hN⟩ := hv
  subst hsz
  have C : Cx p s m _ meth c cX10_nearest (some .double) 14 RX10 lw_all := Cx_of B hml
  have X := Hx_start hP hK hD hN
  obtain ⟨hx, hb, hr, -, hown, hts, hlk⟩ := id C
  generalize va_A ([]) s.heap.size = A at X ⊢
  have hl := lv_entry ([.double x0, .double x1, .int x2, .int x3]) (n := 14) (Nat.le_of_ble_eq_true rfl)
  rw [lg_entry_eq]
  generalize (lg_sl ([.double x0, .double x1, .int x2, .int x3]) ++ List.replicate (14 - (lg_sl ([.double x0, .double x1, .int x2, .int x3])).length) Slot.unset).toArray = ls at hl ⊢
  have hl : lv_has ls 14 [(0, .double x0), (2, .double x1), (4, .int x2), (5, .int x3)] := hl
  unfold f_X10_nearest at hF
  refine lv_iload hx hb dX10_nearest_0 (lv_at hl 2 rfl) ?_
  refine lv_istore (lv' := [(6, .int x2), (0, .double x0), (2, .double x1), (4, .int x2), (5, .int x3)]) hx hb dX10_nearest_2 hl (by decide) rfl (fun ls hl => ?_)
  refine lv_iload hx hb dX10_nearest_4 (lv_at hl 3 rfl) ?_
  refine lv_istore (lv' := [(7, .int x2), (6, .int x2), (0, .double x0), (2, .double x1), (4, .int x2), (5, .int x3)]) hx hb dX10_nearest_6 hl (by decide) rfl (fun ls hl => ?_)
  refine lv_ldc2d hx hb hown (hts _ q6_104) dX10_nearest_8 ?_
  refine lv_dstore (lv' := [(8, .double (13830554455654793216 : UInt64)), (7, .int x2), (6, .int x2), (0, .double x0), (2, .double x1), (4, .int x2), (5, .int x3)]) hx hb dX10_nearest_11 hl (by decide) rfl (fun ls hl => ?_)
  exact (kL_X10_nearest l D n n) C X (lv_sub hl [3, 4, 6, 2, 1, 0] rfl) hF

/-! ### X10_findTwo -/
theorem dX10_findTwo_0 : decode cX10_findTwo 0 = .ok (.ldc2_w 21, 3) := by decide +kernel
theorem dX10_findTwo_3 : decode cX10_findTwo 3 = .ok (.dstore 5, 2) := by decide +kernel
theorem dX10_findTwo_5 : decode cX10_findTwo 5 = .ok (.iload_n 3, 1) := by decide +kernel
theorem dX10_findTwo_6 : decode cX10_findTwo 6 = .ok (.istore 7, 2) := by decide +kernel
theorem dX10_findTwo_8 : decode cX10_findTwo 8 = .ok (.iload 7, 2) := by decide +kernel
theorem dX10_findTwo_10 : decode cX10_findTwo 10 = .ok (.iload 4, 2) := by decide +kernel
theorem dX10_findTwo_12 : decode cX10_findTwo 12 = .ok (.if_icmp .gt 76, 3) := by decide +kernel
theorem dX10_findTwo_15 : decode cX10_findTwo 15 = .ok (.iload_n 3, 1) := by decide +kernel
theorem dX10_findTwo_16 : decode cX10_findTwo 16 = .ok (.istore 8, 2) := by decide +kernel
theorem dX10_findTwo_18 : decode cX10_findTwo 18 = .ok (.iload 8, 2) := by decide +kernel
theorem dX10_findTwo_20 : decode cX10_findTwo 20 = .ok (.iload 4, 2) := by decide +kernel
theorem dX10_findTwo_22 : decode cX10_findTwo 22 = .ok (.if_icmp .gt 60, 3) := by decide +kernel
theorem dX10_findTwo_25 : decode cX10_findTwo 25 = .ok (.iload 7, 2) := by decide +kernel
theorem dX10_findTwo_27 : decode cX10_findTwo 27 = .ok (.iload 8, 2) := by decide +kernel
theorem dX10_findTwo_29 : decode cX10_findTwo 29 = .ok (.invokestatic 23, 3) := by decide +kernel
theorem dX10_findTwo_32 : decode cX10_findTwo 32 = .ok (.dload_n 1, 1) := by decide +kernel
theorem dX10_findTwo_33 : decode cX10_findTwo 33 = .ok (.iload_n 3, 1) := by decide +kernel
theorem dX10_findTwo_34 : decode cX10_findTwo 34 = .ok (.iload 4, 2) := by decide +kernel
theorem dX10_findTwo_36 : decode cX10_findTwo 36 = .ok (.invokestatic 31, 3) := by decide +kernel
theorem dX10_findTwo_39 : decode cX10_findTwo 39 = .ok (.dstore 9, 2) := by decide +kernel
theorem dX10_findTwo_41 : decode cX10_findTwo 41 = .ok (.dload 5, 2) := by decide +kernel
theorem dX10_findTwo_43 : decode cX10_findTwo 43 = .ok (.dconst 0, 1) := by decide +kernel
theorem dX10_findTwo_44 : decode cX10_findTwo 44 = .ok (.dcmp .g, 1) := by decide +kernel
theorem dX10_findTwo_45 : decode cX10_findTwo 45 = .ok (.ifCond .lt 11, 3) := by decide +kernel
theorem dX10_findTwo_48 : decode cX10_findTwo 48 = .ok (.dload 9, 2) := by decide +kernel
theorem dX10_findTwo_50 : decode cX10_findTwo 50 = .ok (.dload 5, 2) := by decide +kernel
theorem dX10_findTwo_52 : decode cX10_findTwo 52 = .ok (.dcmp .g, 1) := by decide +kernel
theorem dX10_findTwo_53 : decode cX10_findTwo 53 = .ok (.ifCond .ge 23, 3) := by decide +kernel
theorem dX10_findTwo_56 : decode cX10_findTwo 56 = .ok (.dload 9, 2) := by decide +kernel
theorem dX10_findTwo_58 : decode cX10_findTwo 58 = .ok (.dstore 5, 2) := by decide +kernel
theorem dX10_findTwo_60 : decode cX10_findTwo 60 = .ok (.aload_n 0, 1) := by decide +kernel
theorem dX10_findTwo_61 : decode cX10_findTwo 61 = .ok (.getfield 7, 3) := by decide +kernel
theorem dX10_findTwo_64 : decode cX10_findTwo 64 = .ok (.iconst 0, 1) := by decide +kernel
theorem dX10_findTwo_65 : decode cX10_findTwo 65 = .ok (.iload 7, 2) := by decide +kernel
theorem dX10_findTwo_67 : decode cX10_findTwo 67 = .ok (.iastore, 1) := by decide +kernel
theorem dX10_findTwo_68 : decode cX10_findTwo 68 = .ok (.aload_n 0, 1) := by decide +kernel
theorem dX10_findTwo_69 : decode cX10_findTwo 69 = .ok (.getfield 7, 3) := by decide +kernel
theorem dX10_findTwo_72 : decode cX10_findTwo 72 = .ok (.iconst 1, 1) := by decide +kernel
theorem dX10_findTwo_73 : decode cX10_findTwo 73 = .ok (.iload 8, 2) := by decide +kernel
theorem dX10_findTwo_75 : decode cX10_findTwo 75 = .ok (.iastore, 1) := by decide +kernel
theorem dX10_findTwo_76 : decode cX10_findTwo 76 = .ok (.iinc 8 1, 3) := by decide +kernel
theorem dX10_findTwo_79 : decode cX10_findTwo 79 = .ok (.goto (-61), 3) := by decide +kernel
theorem dX10_findTwo_82 : decode cX10_findTwo 82 = .ok (.iinc 7 1, 3) := by decide +kernel
theorem dX10_findTwo_85 : decode cX10_findTwo 85 = .ok (.goto (-77), 3) := by decide +kernel
theorem dX10_findTwo_88 : decode cX10_findTwo 88 = .ok (.aload_n 0, 1) := by decide +kernel
theorem dX10_findTwo_89 : decode cX10_findTwo 89 = .ok (.iconst 4, 1) := by decide +kernel
theorem dX10_findTwo_90 : decode cX10_findTwo 90 = .ok (.putfield 13, 3) := by decide +kernel
theorem dX10_findTwo_93 : decode cX10_findTwo 93 = .ok (.aload_n 0, 1) := by decide +kernel
theorem dX10_findTwo_94 : decode cX10_findTwo 94 = .ok (.aload_n 0, 1) := by decide +kernel
theorem dX10_findTwo_95 : decode cX10_findTwo 95 = .ok (.getfield 7, 3) := by decide +kernel
theorem dX10_findTwo_98 : decode cX10_findTwo 98 = .ok (.iconst 0, 1) := by decide +kernel
theorem dX10_findTwo_99 : decode cX10_findTwo 99 = .ok (.iaload, 1) := by decide +kernel
theorem dX10_findTwo_100 : decode cX10_findTwo 100 = .ok (.aload_n 0, 1) := by decide +kernel
theorem dX10_findTwo_101 : decode cX10_findTwo 101 = .ok (.getfield 7, 3) := by decide +kernel
theorem dX10_findTwo_104 : decode cX10_findTwo 104 = .ok (.iconst 1, 1) := by decide +kernel
theorem dX10_findTwo_105 : decode cX10_findTwo 105 = .ok (.iaload, 1) := by decide +kernel
theorem dX10_findTwo_106 : decode cX10_findTwo 106 = .ok (.invokestatic 23, 3) := by decide +kernel
theorem dX10_findTwo_109 : decode cX10_findTwo 109 = .ok (.dload_n 1, 1) := by decide +kernel
theorem dX10_findTwo_110 : decode cX10_findTwo 110 = .ok (.iload_n 3, 1) := by decide +kernel
theorem dX10_findTwo_111 : decode cX10_findTwo 111 = .ok (.iload 4, 2) := by decide +kernel
theorem dX10_findTwo_113 : decode cX10_findTwo 113 = .ok (.iconst 2, 1) := by decide +kernel
theorem dX10_findTwo_114 : decode cX10_findTwo 114 = .ok (.invokevirtual 17, 3) := by decide +kernel
theorem dX10_findTwo_117 : decode cX10_findTwo 117 = .ok (.dreturn, 1) := by decide +kernel
abbrev R_X10_findTwo : Room := ({ frames := 2, cells := 0, slots := 0, locals := 58 } : Room)
def b_X10_findTwo_76 (n : Nat) (rec : (Gs → UInt64 → Int32 → Int32 → UInt64 → Int32 → Option (UInt64 × Gs)) × (Gs → UInt64 → Int32 → Int32 → UInt64 → Int32 → Int32 → Option (UInt64 × Gs))) (gT : Gs) (v1 : UInt64) (v3 : Int32) (v4 : Int32) (v5 : UInt64) (v7 : Int32) (v8 : Int32) : Option (UInt64 × Gs) :=
  rec.2 gT v1 v3 v4 v5 v7 (v8 + (1 : Int32))
def b_X10_findTwo_56 (n : Nat) (rec : (Gs → UInt64 → Int32 → Int32 → UInt64 → Int32 → Option (UInt64 × Gs)) × (Gs → UInt64 → Int32 → Int32 → UInt64 → Int32 → Int32 → Option (UInt64 × Gs))) (gT : Gs) (v1 : UInt64) (v3 : Int32) (v4 : Int32) (v7 : Int32) (v8 : Int32) (v9 : UInt64) : Option (UInt64 × Gs) :=
  grd (inB (0 : Int32) 4) (grd (inB (1 : Int32) 4) (b_X10_findTwo_76 n rec (sIA (sIA gT 0 (upd (gIA gT 0) (0 : Int32).toNatClampNeg v7)) 0 (upd (upd (gIA gT 0) (0 : Int32).toNatClampNeg v7) (1 : Int32).toNatClampNeg v8)) v1 v3 v4 v9 v7 v8))
def h_X10_findTwo_18 (n : Nat) (rec : (Gs → UInt64 → Int32 → Int32 → UInt64 → Int32 → Option (UInt64 × Gs)) × (Gs → UInt64 → Int32 → Int32 → UInt64 → Int32 → Int32 → Option (UInt64 × Gs))) (gT : Gs) (v1 : UInt64) (v3 : Int32) (v4 : Int32) (v5 : UInt64) (v7 : Int32) (v8 : Int32) : Option (UInt64 × Gs) :=
  if v4 < v8 then (rec.1 gT v1 v3 v4 v5 (v7 + (1 : Int32))) else (bnd (f_X10_quotient v7 v8) (fun q_7 => bnd (f_X10_nearest n q_7 v1 v3 v4) (fun q_9 => if (Op.cmpValue (FP.dcmp v5 FP.dconst0) .g) < 0 then (b_X10_findTwo_56 n rec gT v1 v3 v4 v7 v8 q_9) else (if 0 ≤ (Op.cmpValue (FP.dcmp q_9 v5) .g) then (b_X10_findTwo_76 n rec gT v1 v3 v4 v5 v7 v8) else (b_X10_findTwo_56 n rec gT v1 v3 v4 v7 v8 q_9)))))
def h_X10_findTwo_8 (n : Nat) (rec : (Gs → UInt64 → Int32 → Int32 → UInt64 → Int32 → Option (UInt64 × Gs)) × (Gs → UInt64 → Int32 → Int32 → UInt64 → Int32 → Int32 → Option (UInt64 × Gs))) (gT : Gs) (v1 : UInt64) (v3 : Int32) (v4 : Int32) (v5 : UInt64) (v7 : Int32) : Option (UInt64 × Gs) :=
  if v4 < v7 then (grd (inB (0 : Int32) 4) (grd (inB (1 : Int32) 4) (bnd (f_X10_quotient (gIA gT 0 (0 : Int32).toNatClampNeg) (gIA gT 0 (1 : Int32).toNatClampNeg)) (fun q_3 => bnd (f_X10_findPair n (sI gT 1 (4 : Int32)) q_3 v1 v3 v4 (2 : Int32)) (fun q_5 => some (q_5.1, q_5.2)))))) else (rec.2 gT v1 v3 v4 v5 v7 v3)
def L_X10_findTwo (n : Nat) : Nat → ((Gs → UInt64 → Int32 → Int32 → UInt64 → Int32 → Option (UInt64 × Gs)) × (Gs → UInt64 → Int32 → Int32 → UInt64 → Int32 → Int32 → Option (UInt64 × Gs)))
  | 0 => ((fun _ _ _ _ _ _ => none), (fun _ _ _ _ _ _ _ => none))
  | k + 1 => (h_X10_findTwo_8 n (L_X10_findTwo n k), h_X10_findTwo_18 n (L_X10_findTwo n k))
def f_X10_findTwo (n : Nat) (gT : Gs) (x0 : UInt64) (x1 : Int32) (x2 : Int32) : Option (UInt64 × Gs) :=
  (L_X10_findTwo n n).1 gT x0 x1 x2 (13830554455654793216 : UInt64) x1
def S_X10_findTwo_76 (l : Launch) (D : Dx) (hT : Nat) (aT : Nat → Nat) (yT : Nat → ClassId) (fn : Gs → UInt64 → Int32 → Int32 → UInt64 → Int32 → Int32 → Option (UInt64 × Gs)) : Prop :=
  ∀ {p : Program} {e : Env} {s : State} {m : MethodId} {args : Array Value} {below : List Frame} {meth : Method} {c : Code} {H : Heap} {locs : List Loc} {A : Nat → Prop} {ls : Array Slot} {gT : Gs} {v1 : UInt64} {v3 : Int32} {v4 : Int32} {v5 : UInt64} {v7 : Int32} {v8 : Int32} {q : UInt64 × Gs}, Cx p s m args meth c cX10_findTwo (some .double) 11 RX10 lw_all → Hx D (tX10 yT) A s H locs (wX10 hT aT yT gT) → lv_has ls 11 [(0, .ref hT), (1, .double v1), (3, .int v3), (4, .int v4), (5, .double v5), (7, .int v7), (8, .int v8)] → fn gT v1 v3 v4 v5 v7 v8 = some q → W p l e R_X10_findTwo s m args below meth c H locs 0 0 (MQ below (QD D A (wX10 hT aT yT q.2) q.1) args s 0 0 A) (F0 m 76 ls [])
def S_X10_findTwo_56 (l : Launch) (D : Dx) (hT : Nat) (aT : Nat → Nat) (yT : Nat → ClassId) (fn : Gs → UInt64 → Int32 → Int32 → Int32 → Int32 → UInt64 → Option (UInt64 × Gs)) : Prop :=
  ∀ {p : Program} {e : Env} {s : State} {m : MethodId} {args : Array Value} {below : List Frame} {meth : Method} {c : Code} {H : Heap} {locs : List Loc} {A : Nat → Prop} {ls : Array Slot} {gT : Gs} {v1 : UInt64} {v3 : Int32} {v4 : Int32} {v7 : Int32} {v8 : Int32} {v9 : UInt64} {q : UInt64 × Gs}, Cx p s m args meth c cX10_findTwo (some .double) 11 RX10 lw_all → Hx D (tX10 yT) A s H locs (wX10 hT aT yT gT) → lv_has ls 11 [(0, .ref hT), (1, .double v1), (3, .int v3), (4, .int v4), (7, .int v7), (8, .int v8), (9, .double v9)] → fn gT v1 v3 v4 v7 v8 v9 = some q → W p l e R_X10_findTwo s m args below meth c H locs 0 0 (MQ below (QD D A (wX10 hT aT yT q.2) q.1) args s 0 0 A) (F0 m 56 ls [])
def S_X10_findTwo_18 (l : Launch) (D : Dx) (hT : Nat) (aT : Nat → Nat) (yT : Nat → ClassId) (fn : Gs → UInt64 → Int32 → Int32 → UInt64 → Int32 → Int32 → Option (UInt64 × Gs)) : Prop :=
  ∀ {p : Program} {e : Env} {s : State} {m : MethodId} {args : Array Value} {below : List Frame} {meth : Method} {c : Code} {H : Heap} {locs : List Loc} {A : Nat → Prop} {ls : Array Slot} {gT : Gs} {v1 : UInt64} {v3 : Int32} {v4 : Int32} {v5 : UInt64} {v7 : Int32} {v8 : Int32} {q : UInt64 × Gs}, Cx p s m args meth c cX10_findTwo (some .double) 11 RX10 lw_all → Hx D (tX10 yT) A s H locs (wX10 hT aT yT gT) → lv_has ls 11 [(0, .ref hT), (1, .double v1), (3, .int v3), (4, .int v4), (5, .double v5), (7, .int v7), (8, .int v8)] → fn gT v1 v3 v4 v5 v7 v8 = some q → W p l e R_X10_findTwo s m args below meth c H locs 0 0 (MQ below (QD D A (wX10 hT aT yT q.2) q.1) args s 0 0 A) (F0 m 18 ls [])
def S_X10_findTwo_8 (l : Launch) (D : Dx) (hT : Nat) (aT : Nat → Nat) (yT : Nat → ClassId) (fn : Gs → UInt64 → Int32 → Int32 → UInt64 → Int32 → Option (UInt64 × Gs)) : Prop :=
  ∀ {p : Program} {e : Env} {s : State} {m : MethodId} {args : Array Value} {below : List Frame} {meth : Method} {c : Code} {H : Heap} {locs : List Loc} {A : Nat → Prop} {ls : Array Slot} {gT : Gs} {v1 : UInt64} {v3 : Int32} {v4 : Int32} {v5 : UInt64} {v7 : Int32} {q : UInt64 × Gs}, Cx p s m args meth c cX10_findTwo (some .double) 11 RX10 lw_all → Hx D (tX10 yT) A s H locs (wX10 hT aT yT gT) → lv_has ls 11 [(0, .ref hT), (1, .double v1), (3, .int v3), (4, .int v4), (5, .double v5), (7, .int v7)] → fn gT v1 v3 v4 v5 v7 = some q → W p l e R_X10_findTwo s m args below meth c H locs 0 0 (MQ below (QD D A (wX10 hT aT yT q.2) q.1) args s 0 0 A) (F0 m 8 ls [])
def SH_X10_findTwo (l : Launch) (D : Dx) (hT : Nat) (aT : Nat → Nat) (yT : Nat → ClassId) (rec : (Gs → UInt64 → Int32 → Int32 → UInt64 → Int32 → Option (UInt64 × Gs)) × (Gs → UInt64 → Int32 → Int32 → UInt64 → Int32 → Int32 → Option (UInt64 × Gs))) : Prop := S_X10_findTwo_8 l D hT aT yT rec.1 ∧ S_X10_findTwo_18 l D hT aT yT rec.2
set_option maxHeartbeats 4000000 in
set_option maxRecDepth 100000 in
theorem k_X10_findTwo_76 (l : Launch) (D : Dx) (hT : Nat) (aT : Nat → Nat) (yT : Nat → ClassId) (n : Nat) (rec : (Gs → UInt64 → Int32 → Int32 → UInt64 → Int32 → Option (UInt64 × Gs)) × (Gs → UInt64 → Int32 → Int32 → UInt64 → Int32 → Int32 → Option (UInt64 × Gs))) (IH : SH_X10_findTwo l D hT aT yT rec) : S_X10_findTwo_76 l D hT aT yT (b_X10_findTwo_76 n rec) := by
  intro p e s m args below meth c H locs A ls gT v1 v3 v4 v5 v7 v8 q C X hl hF
  obtain ⟨hx, hb, hr, hml, hown, hts, hlk⟩ := id C
  unfold b_X10_findTwo_76 at hF
  refine lv_iinc (v := v8 + (1 : Int32)) (lv' := [(8, .int (v8 + (1 : Int32))), (0, .ref hT), (1, .double v1), (3, .int v3), (4, .int v4), (5, .double v5), (7, .int v7)]) hx hb dX10_findTwo_76 hl (k := 6) rfl rfl (by decide) rfl (fun ls hl => ?_)
  refine lv_goto (tgt := 18) hx hb dX10_findTwo_79 (by decide) ?_
  exact IH.2 C X (lv_sub hl [1, 2, 3, 4, 5, 6, 0] rfl) hF
set_option maxHeartbeats 4000000 in
set_option maxRecDepth 100000 in
theorem k_X10_findTwo_56 (l : Launch) (D : Dx) (hT : Nat) (aT : Nat → Nat) (yT : Nat → ClassId) (n : Nat) (rec : (Gs → UInt64 → Int32 → Int32 → UInt64 → Int32 → Option (UInt64 × Gs)) × (Gs → UInt64 → Int32 → Int32 → UInt64 → Int32 → Int32 → Option (UInt64 × Gs))) (IH : SH_X10_findTwo l D hT aT yT rec) : S_X10_findTwo_56 l D hT aT yT (b_X10_findTwo_56 n rec) := by
  intro p e s m args below meth c H locs A ls gT v1 v3 v4 v7 v8 v9 q C X hl hF
  obtain ⟨hx, hb, hr, hml, hown, hts, hlk⟩ := id C
  unfold b_X10_findTwo_56 at hF
  refine lv_dload hx hb dX10_findTwo_56 (lv_at hl 6 rfl) ?_
  refine lv_dstore (lv' := [(5, .double v9), (0, .ref hT), (1, .double v1), (3, .int v3), (4, .int v4), (7, .int v7), (8, .int v8), (9, .double v9)]) hx hb dX10_findTwo_58 hl (by decide) rfl (fun ls hl => ?_)
  refine lv_aload_n hx hb dX10_findTwo_60 rfl (lv_at hl 1 rfl) ?_
  refine va_get (D := D.1) (ci := 10) (v := .ref (aT 0)) (C := RX10) (T := TX10) (N := 2) hx hb hts wi_X10 hown X.1 X.2.1 0 rfl rfl 0 (by decide) (hts _ q1_186) (fun _ h9 => h9) (fl_get (by decide)) dX10_findTwo_61 ?_
  refine lv_iconst (v := (0 : Int32)) hx hb dX10_findTwo_64 (by decide) ?_
  refine lv_iload hx hb dX10_findTwo_65 (lv_at hl 5 rfl) ?_
  obtain ⟨h_11, hF⟩ := grd_some hF
  refine va_iast (D := D.1) (f := gIA gT 0) hx hb X.1 X.2.1 X.2.2.1 X.2.2.2.1 1 0 rfl rfl (inB_ok h_11) dX10_findTwo_67 (fun H locs hP hD hS => ?_)
  have X : Hx D (tX10 yT) A s H locs (wX10 hT aT yT (sIA gT 0 (upd (gIA gT 0) (0 : Int32).toNatClampNeg v7))) := Hx_set X (wG_sIA (i := 0) (k := 0) ndX10 rfl rfl) hP hD hS
  refine lv_aload_n hx hb dX10_findTwo_68 rfl (lv_at hl 1 rfl) ?_
  refine va_get (D := D.1) (ci := 10) (v := .ref (aT 0)) (C := RX10) (T := TX10) (N := 2) hx hb hts wi_X10 hown X.1 X.2.1 0 rfl rfl 0 (by decide) (hts _ q1_186) (fun _ h9 => h9) (fl_get (by decide)) dX10_findTwo_69 ?_
  refine lv_iconst (v := (1 : Int32)) hx hb dX10_findTwo_72 (by decide) ?_
  refine lv_iload hx hb dX10_findTwo_73 (lv_at hl 6 rfl) ?_
  obtain ⟨h_12, hF⟩ := grd_some hF
  refine va_iast (D := D.1) (f := upd (gIA gT 0) (0 : Int32).toNatClampNeg v7) hx hb X.1 X.2.1 X.2.2.1 X.2.2.2.1 1 0 rfl rfl (inB_ok h_12) dX10_findTwo_75 (fun H locs hP hD hS => ?_)
  have X : Hx D (tX10 yT) A s H locs (wX10 hT aT yT (sIA (sIA gT 0 (upd (gIA gT 0) (0 : Int32).toNatClampNeg v7)) 0 (upd (upd (gIA gT 0) (0 : Int32).toNatClampNeg v7) (1 : Int32).toNatClampNeg v8))) := Hx_set X (wG_sIA (i := 0) (k := 0) ndX10 rfl rfl) hP hD hS
  exact (k_X10_findTwo_76 l D hT aT yT n rec IH) C X (lv_sub hl [1, 2, 3, 4, 0, 5, 6] rfl) hF
set_option maxHeartbeats 4000000 in
set_option maxRecDepth 100000 in
theorem k_X10_findTwo_18 (l : Launch) (D : Dx) (hT : Nat) (aT : Nat → Nat) (yT : Nat → ClassId) (n : Nat) (rec : (Gs → UInt64 → Int32 → Int32 → UInt64 → Int32 → Option (UInt64 × Gs)) × (Gs → UInt64 → Int32 → Int32 → UInt64 → Int32 → Int32 → Option (UInt64 × Gs))) (IH : SH_X10_findTwo l D hT aT yT rec) : S_X10_findTwo_18 l D hT aT yT (h_X10_findTwo_18 n rec) := by
  intro p e s m args below meth c H locs A ls gT v1 v3 v4 v5 v7 v8 q C X hl hF
  obtain ⟨hx, hb, hr, hml, hown, hts, hlk⟩ := id C
  unfold h_X10_findTwo_18 at hF
  refine lv_iload hx hb dX10_findTwo_18 (lv_at hl 6 rfl) ?_
  refine lv_iload hx hb dX10_findTwo_20 (lv_at hl 3 rfl) ?_
  refine lv_icmp_gt (tgt := 82) hx hb dX10_findTwo_22 (by decide) (fun c => ?_) (fun c => ?_)
  · replace hF := iT c hF
    refine lv_iinc (v := v7 + (1 : Int32)) (lv' := [(7, .int (v7 + (1 : Int32))), (0, .ref hT), (1, .double v1), (3, .int v3), (4, .int v4), (5, .double v5), (8, .int v8)]) hx hb dX10_findTwo_82 hl (k := 5) rfl rfl (by decide) rfl (fun ls hl => ?_)
    refine lv_goto (tgt := 8) hx hb dX10_findTwo_85 (by decide) ?_
    exact IH.1 C X (lv_sub hl [1, 2, 3, 4, 5, 0] rfl) hF
  · replace hF := iF c hF
    refine lv_iload hx hb dX10_findTwo_25 (lv_at hl 5 rfl) ?_
    refine lv_iload hx hb dX10_findTwo_27 (lv_at hl 6 rfl) ?_
    obtain ⟨q_7, hc_8, hF⟩ := bnd_some hF
    refine cS_d (As := [.int v7, .int v8]) (rest := []) C X (c_X10_quotient l D  v7 v8 q_7 hc_8 _) (va_cwS 2 hts (good_S q6_105 q6_106 q1_6 q6_107) rfl rfl rfl (by decide +kernel) ⟨Nat.le_of_ble_eq_true rfl, Nat.le_of_ble_eq_true rfl⟩) (eK X) eP (eD (A := A)) (eF X) hl.1 rfl rfl (Nat.le_of_ble_eq_true rfl) dX10_findTwo_29 ⟨Nat.le_of_ble_eq_true rfl, Nat.le_of_ble_eq_true rfl⟩ (fun t H1 locs1 ht hB hk hS => ?_)
    have X := Hx_after_none X hk hS
    clear hk hS ht hB
    generalize H1 = H at X ⊢
    generalize locs1 = locs at X ⊢
    refine lv_dload_n hx hb dX10_findTwo_32 rfl (lv_at hl 1 rfl) ?_
    refine lv_iload_n hx hb dX10_findTwo_33 rfl (lv_at hl 2 rfl) ?_
    refine lv_iload hx hb dX10_findTwo_34 (lv_at hl 3 rfl) ?_
    obtain ⟨q_9, hc_10, hF⟩ := bnd_some hF
    refine cS_d (As := [.double q_7, .double v1, .int v3, .int v4]) (rest := []) C X (c_X10_nearest l D  n q_7 v1 v3 v4 q_9 hc_10 _) (va_cwS 4 hts (good_S q6_115 q6_116 q1_6 q6_117) rfl rfl rfl (by decide +kernel) ⟨Nat.le_of_ble_eq_true rfl, Nat.le_of_ble_eq_true rfl⟩) (eK X) eP (eD (A := A)) (eF X) hl.1 rfl rfl (Nat.le_of_ble_eq_true rfl) dX10_findTwo_36 ⟨Nat.le_of_ble_eq_true rfl, Nat.le_of_ble_eq_true rfl⟩ (fun t H1 locs1 ht hB hk hS => ?_)
    have X := Hx_after_none X hk hS
    clear hk hS ht hB
    generalize H1 = H at X ⊢
    generalize locs1 = locs at X ⊢
    refine lv_dstore (lv' := [(9, .double q_9), (0, .ref hT), (1, .double v1), (3, .int v3), (4, .int v4), (5, .double v5), (7, .int v7), (8, .int v8)]) hx hb dX10_findTwo_39 hl (by decide) rfl (fun ls hl => ?_)
    refine lv_dload hx hb dX10_findTwo_41 (lv_at hl 5 rfl) ?_
    refine lv_dconst0 hx hb dX10_findTwo_43 ?_
    refine lv_dcmp hx hb dX10_findTwo_44 ?_
    refine lv_if_lt (tgt := 56) hx hb dX10_findTwo_45 (by decide) (fun c => ?_) (fun c => ?_)
    · replace hF := iT c hF
      exact (k_X10_findTwo_56 l D hT aT yT n rec IH) C X (lv_sub hl [1, 2, 3, 4, 6, 7, 0] rfl) hF
    · replace hF := iF c hF
      refine lv_dload hx hb dX10_findTwo_48 (lv_at hl 0 rfl) ?_
      refine lv_dload hx hb dX10_findTwo_50 (lv_at hl 5 rfl) ?_
      refine lv_dcmp hx hb dX10_findTwo_52 ?_
      refine lv_if_ge (tgt := 76) hx hb dX10_findTwo_53 (by decide) (fun c => ?_) (fun c => ?_)
      · replace hF := iT c hF
        exact (k_X10_findTwo_76 l D hT aT yT n rec IH) C X (lv_sub hl [1, 2, 3, 4, 5, 6, 7] rfl) hF
      · replace hF := iF c hF
        exact (k_X10_findTwo_56 l D hT aT yT n rec IH) C X (lv_sub hl [1, 2, 3, 4, 6, 7, 0] rfl) hF
set_option maxHeartbeats 4000000 in
set_option maxRecDepth 100000 in
theorem k_X10_findTwo_8 (l : Launch) (D : Dx) (hT : Nat) (aT : Nat → Nat) (yT : Nat → ClassId) (n : Nat) (rec : (Gs → UInt64 → Int32 → Int32 → UInt64 → Int32 → Option (UInt64 × Gs)) × (Gs → UInt64 → Int32 → Int32 → UInt64 → Int32 → Int32 → Option (UInt64 × Gs))) (IH : SH_X10_findTwo l D hT aT yT rec) : S_X10_findTwo_8 l D hT aT yT (h_X10_findTwo_8 n rec) := by
  intro p e s m args below meth c H locs A ls gT v1 v3 v4 v5 v7 q C X hl hF
  obtain ⟨hx, hb, hr, hml, hown, hts, hlk⟩ := id C
  unfold h_X10_findTwo_8 at hF
  refine lv_iload hx hb dX10_findTwo_8 (lv_at hl 5 rfl) ?_
  refine lv_iload hx hb dX10_findTwo_10 (lv_at hl 3 rfl) ?_
  refine lv_icmp_gt (tgt := 88) hx hb dX10_findTwo_12 (by decide) (fun c => ?_) (fun c => ?_)
  · replace hF := iT c hF
    refine lv_aload_n hx hb dX10_findTwo_88 rfl (lv_at hl 0 rfl) ?_
    refine lv_iconst (v := (4 : Int32)) hx hb dX10_findTwo_89 (by decide) ?_
    refine va_put (D := D.1) (ci := 10) (v := .int (4 : Int32)) (ty := .int) (C := RX10) (T := TX10) (N := 2) hx hb hts wi_X10 tyX10 tyX10_ok nmX10 hown X.1 X.2.1 X.2.2.1 X.2.2.2.1 0 rfl rfl 1 (by decide) (hts _ q1_188) (fun _ h9 => h9) rfl (by decide +kernel) rfl rfl (by rw [List.length_map, List.length_range]; decide) dX10_findTwo_90 (fun H locs hP hD hS => ?_)
    have X : Hx D (tX10 yT) A s H locs (wX10 hT aT yT (sI gT 1 (4 : Int32))) := Hx_set X (wG_sI (k := 1) rfl) hP hD hS
    refine lv_aload_n hx hb dX10_findTwo_93 rfl (lv_at hl 0 rfl) ?_
    refine lv_aload_n hx hb dX10_findTwo_94 rfl (lv_at hl 0 rfl) ?_
    refine va_get (D := D.1) (ci := 10) (v := .ref (aT 0)) (C := RX10) (T := TX10) (N := 2) hx hb hts wi_X10 hown X.1 X.2.1 0 rfl rfl 0 (by decide) (hts _ q1_186) (fun _ h9 => h9) (fl_get (by decide)) dX10_findTwo_95 ?_
    refine lv_iconst (v := (0 : Int32)) hx hb dX10_findTwo_98 (by decide) ?_
    obtain ⟨h_1, hF⟩ := grd_some hF
    refine va_iald (D := D.1) (f := gIA gT 0) hx hb X.1 X.2.1 1 0 rfl rfl (inB_ok h_1) dX10_findTwo_99 ?_
    refine lv_aload_n hx hb dX10_findTwo_100 rfl (lv_at hl 0 rfl) ?_
    refine va_get (D := D.1) (ci := 10) (v := .ref (aT 0)) (C := RX10) (T := TX10) (N := 2) hx hb hts wi_X10 hown X.1 X.2.1 0 rfl rfl 0 (by decide) (hts _ q1_186) (fun _ h9 => h9) (fl_get (by decide)) dX10_findTwo_101 ?_
    refine lv_iconst (v := (1 : Int32)) hx hb dX10_findTwo_104 (by decide) ?_
    obtain ⟨h_2, hF⟩ := grd_some hF
    refine va_iald (D := D.1) (f := gIA gT 0) hx hb X.1 X.2.1 1 0 rfl rfl (inB_ok h_2) dX10_findTwo_105 ?_
    obtain ⟨q_3, hc_4, hF⟩ := bnd_some hF
    refine cS_d (As := [.int (gIA gT 0 (0 : Int32).toNatClampNeg), .int (gIA gT 0 (1 : Int32).toNatClampNeg)]) (rest := [.ref hT]) C X (c_X10_quotient l D  (gIA gT 0 (0 : Int32).toNatClampNeg) (gIA gT 0 (1 : Int32).toNatClampNeg) q_3 hc_4 _) (va_cwS 2 hts (good_S q6_105 q6_106 q1_6 q6_107) rfl rfl rfl (by decide +kernel) ⟨Nat.le_of_ble_eq_true rfl, Nat.le_of_ble_eq_true rfl⟩) (eK X) eP (eD (A := A)) (eF X) hl.1 rfl rfl (Nat.le_of_ble_eq_true rfl) dX10_findTwo_106 ⟨Nat.le_of_ble_eq_true rfl, Nat.le_of_ble_eq_true rfl⟩ (fun t H1 locs1 ht hB hk hS => ?_)
    have X := Hx_after_none X hk hS
    clear hk hS ht hB
    generalize H1 = H at X ⊢
    generalize locs1 = locs at X ⊢
    refine lv_dload_n hx hb dX10_findTwo_109 rfl (lv_at hl 1 rfl) ?_
    refine lv_iload_n hx hb dX10_findTwo_110 rfl (lv_at hl 2 rfl) ?_
    refine lv_iload hx hb dX10_findTwo_111 (lv_at hl 3 rfl) ?_
    refine lv_iconst (v := (2 : Int32)) hx hb dX10_findTwo_113 (by decide) ?_
    obtain ⟨q_5, hc_6, hF⟩ := bnd_some hF
    refine cV_d (As := [.double q_3, .double v1, .int v3, .int v4, .int (2 : Int32)]) (rest := []) C X (c_X10_findPair l D hT aT yT n (sI gT 1 (4 : Int32)) q_3 v1 v3 v4 (2 : Int32) q_5 hc_6 _) (cwV 5 hts (good_V q6_100 q6_102 q0_64 q1_6 q6_103) rfl rfl rfl (by decide +kernel) ⟨Nat.le_of_ble_eq_true rfl, Nat.le_of_ble_eq_true rfl⟩) (va_recv X.1 X.2.1 (ci := 10) (q0 := 0) rfl rfl) X.1 X.2.1 X.2.2.1 (free_all X) hl.1 rfl rfl (Nat.le_of_ble_eq_true rfl) dX10_findTwo_114 ⟨Nat.le_of_ble_eq_true rfl, Nat.le_of_ble_eq_true rfl⟩ (fun t H1 locs1 ht hB hk hS => ?_)
    have X : Hx D (tX10 yT) A s H1 locs1 (wX10 hT aT yT q_5.2) := Hx_after_all X ht hB hS
    clear hk hS ht hB
    generalize H1 = H at X ⊢
    generalize locs1 = locs at X ⊢
    have hq := Option.some.inj hF
    subst hq
    exact rt_d C X dX10_findTwo_117
  · replace hF := iF c hF
    refine lv_iload_n hx hb dX10_findTwo_15 rfl (lv_at hl 2 rfl) ?_
    refine lv_istore (lv' := [(8, .int v3), (0, .ref hT), (1, .double v1), (3, .int v3), (4, .int v4), (5, .double v5), (7, .int v7)]) hx hb dX10_findTwo_16 hl (by decide) rfl (fun ls hl => ?_)
    exact IH.2 C X (lv_sub hl [1, 2, 3, 4, 5, 6, 0] rfl) hF
theorem kL_X10_findTwo (l : Launch) (D : Dx) (hT : Nat) (aT : Nat → Nat) (yT : Nat → ClassId) (n : Nat) : ∀ k, SH_X10_findTwo l D hT aT yT (L_X10_findTwo n k)
  | 0 => ⟨(fun _ _ _ h => by cases h), (fun _ _ _ h => by cases h)⟩
  | k + 1 => ⟨k_X10_findTwo_8 l D hT aT yT n _ (kL_X10_findTwo l D hT aT yT n k), k_X10_findTwo_18 l D hT aT yT n _ (kL_X10_findTwo l D hT aT yT n k)⟩
set_option maxHeartbeats 4000000 in
set_option maxRecDepth 100000 in
theorem c_X10_findTwo (l : Launch) (D : Dx) (hT : Nat) (aT : Nat → Nat) (yT : Nat → ClassId) (n : Nat) (gT : Gs) (x0 : UInt64) (x1 : Int32) (x2 : Int32) (q : UInt64 × Gs) (hF : f_X10_findTwo n gT x0 x1 x2 = some q) (sz : Nat) : Met l yX10_findTwo (ws_ yX10_findTwo cX10_findTwo 11 (some .double)) R_X10_findTwo (PC D (tX10 yT) [.ref hT, .double x0, .int x1, .int x2] (wX10 hT aT yT gT) sz) (QD D (va_A (wX10 hT aT yT gT) sz) (wX10 hT aT yT q.2) q.1) 0 0 (va_A (wX10 hT aT yT gT) sz) := by
  refine Met.ofW (cc := cX10_findTwo) (maxL := 11) (ret := (some .double)) (by decide) rfl ?_
  intro p e s m args below meth c s₁ B hml hv
  obtain ⟨rfl, hsz, hP, hK, hD, hN⟩ := hv
  subst hsz
  have C : Cx p s m _ meth c cX10_findTwo (some .double) 11 RX10 lw_all := Cx_of B hml
  have X := Hx_start hP hK hD hN
  obtain ⟨hx, hb, hr, -, hown, hts, hlk⟩ := id C
  generalize va_A (wX10 hT aT yT gT) s.heap.size = A at X ⊢
  have hl := lv_entry ([.ref hT, .double x0, .int x1, .int x2]) (n := 11) (Nat.le_of_ble_eq_true rfl)
  rw [lg_entry_eq]
  generalize (lg_sl ([.ref hT, .double x0, .int x1, .int x2]) ++ List.replicate (11 - (lg_sl ([.ref hT, .double x0, .int x1, .int x2])).length) Slot.unset).toArray = ls at hl ⊢
  have hl : lv_has ls 11 [(0, .ref hT), (1, .double x0), (3, .int x1), (4, .int x2)] := hl
  unfold f_X10_findTwo at hF
  refine lv_ldc2d hx hb hown (hts _ q6_104) dX10_findTwo_0 ?_
  refine lv_dstore (lv' := [(5, .double (13830554455654793216 : UInt64)), (0, .ref hT), (1, .double x0), (3, .int x1), (4, .int x2)]) hx hb dX10_findTwo_3 hl (by decide) rfl (fun ls hl => ?_)
  refine lv_iload_n hx hb dX10_findTwo_5 rfl (lv_at hl 3 rfl) ?_
  refine lv_istore (lv' := [(7, .int x1), (5, .double (13830554455654793216 : UInt64)), (0, .ref hT), (1, .double x0), (3, .int x1), (4, .int x2)]) hx hb dX10_findTwo_6 hl (by decide) rfl (fun ls hl => ?_)
  exact (kL_X10_findTwo l D hT aT yT n n).1 C X (lv_sub hl [2, 3, 4, 5, 1, 0] rfl) hF

/-! ### X3_put -/
theorem dX3_put_0 : decode cX3_put 0 = .ok (.aload_n 0, 1) := by decide +kernel
theorem dX3_put_1 : decode cX3_put 1 = .ok (.getfield 15, 3) := by decide +kernel
theorem dX3_put_4 : decode cX3_put 4 = .ok (.bipush 48, 2) := by decide +kernel
theorem dX3_put_6 : decode cX3_put 6 = .ok (.if_icmp .ge 24, 3) := by decide +kernel
theorem dX3_put_9 : decode cX3_put 9 = .ok (.aload_n 0, 1) := by decide +kernel
theorem dX3_put_10 : decode cX3_put 10 = .ok (.getfield 9, 3) := by decide +kernel
theorem dX3_put_13 : decode cX3_put 13 = .ok (.aload_n 0, 1) := by decide +kernel
theorem dX3_put_14 : decode cX3_put 14 = .ok (.getfield 15, 3) := by decide +kernel
theorem dX3_put_17 : decode cX3_put 17 = .ok (.iload_n 1, 1) := by decide +kernel
theorem dX3_put_18 : decode cX3_put 18 = .ok (.i2b, 1) := by decide +kernel
theorem dX3_put_19 : decode cX3_put 19 = .ok (.bastore, 1) := by decide +kernel
theorem dX3_put_20 : decode cX3_put 20 = .ok (.aload_n 0, 1) := by decide +kernel
theorem dX3_put_21 : decode cX3_put 21 = .ok (.dup, 1) := by decide +kernel
theorem dX3_put_22 : decode cX3_put 22 = .ok (.getfield 15, 3) := by decide +kernel
theorem dX3_put_25 : decode cX3_put 25 = .ok (.iconst 1, 1) := by decide +kernel
theorem dX3_put_26 : decode cX3_put 26 = .ok (.iadd, 1) := by decide +kernel
theorem dX3_put_27 : decode cX3_put 27 = .ok (.putfield 15, 3) := by decide +kernel
theorem dX3_put_30 : decode cX3_put 30 = .ok (.return_, 1) := by decide +kernel
abbrev R_X3_put : Room := ({ frames := 0, cells := 0, slots := 0, locals := 0 } : Room)
def f_X3_put (gT : Gs) (x0 : Int32) : Option (Gs) :=
  if (48 : Int32) ≤ (gI gT 2) then (some gT) else (grd (inB (gI gT 2) 48) (some (sI (sIA gT 1 (upd (gIA gT 1) (gI gT 2).toNatClampNeg (vp_nar .byte x0.toInt8.toInt32))) 2 ((gI gT 2) + (1 : Int32)))))
set_option maxHeartbeats 4000000 in
set_option maxRecDepth 100000 in
theorem c_X3_put (l : Launch) (D : Dx) (hT : Nat) (aT : Nat → Nat) (yT : Nat → ClassId) (gT : Gs) (x0 : Int32) (q : Gs) (hF : f_X3_put gT x0 = some q) (sz : Nat) : Met l yX3_put (ws_ yX3_put cX3_put 2 none) R_X3_put (PC D (tX3 yT) [.ref hT, .int x0] (wX3 hT aT yT gT) sz) (QV D (va_A (wX3 hT aT yT gT) sz) (wX3 hT aT yT q)) 0 0 (va_A (wX3 hT aT yT gT) sz) := by
  refine Met.ofW (cc := cX3_put) (maxL := 2) (ret := none) (by decide) rfl ?_
  intro p e s m args below meth c s₁ B hml hv
  obtain ⟨rfl, hsz, hP, hK, hD, hN⟩ := hv
  subst hsz
  have C : Cx p s m _ meth c cX3_put none 2 RX3 lw_all := Cx_of B hml
  have X := Hx_start hP hK hD hN
  obtain ⟨hx, hb, hr, -, hown, hts, hlk⟩ := id C
  generalize va_A (wX3 hT aT yT gT) s.heap.size = A at X ⊢
  have hl := lv_entry ([.ref hT, .int x0]) (n := 2) (Nat.le_of_ble_eq_true rfl)
  rw [lg_entry_eq]
  generalize (lg_sl ([.ref hT, .int x0]) ++ List.replicate (2 - (lg_sl ([.ref hT, .int x0])).length) Slot.unset).toArray = ls at hl ⊢
  have hl : lv_has ls 2 [(0, .ref hT), (1, .int x0)] := hl
  unfold f_X3_put at hF
  refine lv_aload_n hx hb dX3_put_0 rfl (lv_at hl 0 rfl) ?_
  refine va_get (D := D.1) (ci := 3) (v := .int (gI gT 2)) (C := RX3) (T := TX3) (N := 3) hx hb hts wi_X3 hown X.1 X.2.1 0 rfl rfl 2 (by decide) (hts _ q1_171) (fun _ h9 => h9) (fl_get (by decide)) dX3_put_1 ?_
  refine lv_bipush (v := (48 : Int32)) hx hb dX3_put_4 (by decide) ?_
  refine lv_icmp_ge (tgt := 30) hx hb dX3_put_6 (by decide) (fun c => ?_) (fun c => ?_)
  · replace hF := iT c hF
    have hq := Option.some.inj hF
    subst hq
    exact rt_v C X dX3_put_30
  · replace hF := iF c hF
    refine lv_aload_n hx hb dX3_put_9 rfl (lv_at hl 0 rfl) ?_
    refine va_get (D := D.1) (ci := 3) (v := .ref (aT 1)) (C := RX3) (T := TX3) (N := 3) hx hb hts wi_X3 hown X.1 X.2.1 0 rfl rfl 1 (by decide) (hts _ q1_169) (fun _ h9 => h9) (fl_get (by decide)) dX3_put_10 ?_
    refine lv_aload_n hx hb dX3_put_13 rfl (lv_at hl 0 rfl) ?_
    refine va_get (D := D.1) (ci := 3) (v := .int (gI gT 2)) (C := RX3) (T := TX3) (N := 3) hx hb hts wi_X3 hown X.1 X.2.1 0 rfl rfl 2 (by decide) (hts _ q1_171) (fun _ h9 => h9) (fl_get (by decide)) dX3_put_14 ?_
    refine lv_iload_n hx hb dX3_put_17 rfl (lv_at hl 1 rfl) ?_
    refine lv_i2b hx hb dX3_put_18 rfl ?_
    obtain ⟨h_1, hF⟩ := grd_some hF
    refine va_bast (D := D.1) (f := gIA gT 1) hx hb X.1 X.2.1 X.2.2.1 X.2.2.2.1 1 0 rfl rfl (inB_ok h_1) dX3_put_19 (fun H locs hP hD hS => ?_)
    have X : Hx D (tX3 yT) A s H locs (wX3 hT aT yT (sIA gT 1 (upd (gIA gT 1) (gI gT 2).toNatClampNeg (vp_nar .byte x0.toInt8.toInt32)))) := Hx_set X (wG_sIA (i := 0) (k := 1) ndX3 rfl rfl) hP hD hS
    refine lv_aload_n hx hb dX3_put_20 rfl (lv_at hl 0 rfl) ?_
    refine lv_dup hx hb dX3_put_21 rfl ?_
    refine va_get (D := D.1) (ci := 3) (v := .int (gI gT 2)) (C := RX3) (T := TX3) (N := 3) hx hb hts wi_X3 hown X.1 X.2.1 0 rfl rfl 2 (by decide) (hts _ q1_171) (fun _ h9 => h9) (fl_get (by decide)) dX3_put_22 ?_
    refine lv_iconst (v := (1 : Int32)) hx hb dX3_put_25 (by decide) ?_
    refine lv_iadd hx hb dX3_put_26 ?_
    refine va_put (D := D.1) (ci := 3) (v := .int ((gI gT 2) + (1 : Int32))) (ty := .int) (C := RX3) (T := TX3) (N := 3) hx hb hts wi_X3 tyX3 tyX3_ok nmX3 hown X.1 X.2.1 X.2.2.1 X.2.2.2.1 0 rfl rfl 2 (by decide) (hts _ q1_171) (fun _ h9 => h9) rfl (by decide +kernel) rfl rfl (by rw [List.length_map, List.length_range]; decide) dX3_put_27 (fun H locs hP hD hS => ?_)
    have X : Hx D (tX3 yT) A s H locs (wX3 hT aT yT (sI (sIA gT 1 (upd (gIA gT 1) (gI gT 2).toNatClampNeg (vp_nar .byte x0.toInt8.toInt32))) 2 ((gI gT 2) + (1 : Int32)))) := Hx_set X (wG_sI (k := 2) rfl) hP hD hS
    have hq := Option.some.inj hF
    subst hq
    exact rt_v C X dX3_put_30

/-! ### X3_putTwo -/
theorem dX3_putTwo_0 : decode cX3_putTwo 0 = .ok (.aload_n 0, 1) := by decide +kernel
theorem dX3_putTwo_1 : decode cX3_putTwo 1 = .ok (.bipush 48, 2) := by decide +kernel
theorem dX3_putTwo_3 : decode cX3_putTwo 3 = .ok (.iload_n 1, 1) := by decide +kernel
theorem dX3_putTwo_4 : decode cX3_putTwo 4 = .ok (.bipush 10, 2) := by decide +kernel
theorem dX3_putTwo_6 : decode cX3_putTwo 6 = .ok (.idiv, 1) := by decide +kernel
theorem dX3_putTwo_7 : decode cX3_putTwo 7 = .ok (.iadd, 1) := by decide +kernel
theorem dX3_putTwo_8 : decode cX3_putTwo 8 = .ok (.invokevirtual 23, 3) := by decide +kernel
theorem dX3_putTwo_11 : decode cX3_putTwo 11 = .ok (.aload_n 0, 1) := by decide +kernel
theorem dX3_putTwo_12 : decode cX3_putTwo 12 = .ok (.bipush 48, 2) := by decide +kernel
theorem dX3_putTwo_14 : decode cX3_putTwo 14 = .ok (.iload_n 1, 1) := by decide +kernel
theorem dX3_putTwo_15 : decode cX3_putTwo 15 = .ok (.bipush 10, 2) := by decide +kernel
theorem dX3_putTwo_17 : decode cX3_putTwo 17 = .ok (.irem, 1) := by decide +kernel
theorem dX3_putTwo_18 : decode cX3_putTwo 18 = .ok (.iadd, 1) := by decide +kernel
theorem dX3_putTwo_19 : decode cX3_putTwo 19 = .ok (.invokevirtual 23, 3) := by decide +kernel
theorem dX3_putTwo_22 : decode cX3_putTwo 22 = .ok (.return_, 1) := by decide +kernel
abbrev R_X3_putTwo : Room := ({ frames := 1, cells := 0, slots := 0, locals := 21 } : Room)
def f_X3_putTwo (gT : Gs) (x0 : Int32) : Option (Gs) :=
  bnd (f_X3_put gT ((48 : Int32) + (x0 / (10 : Int32)))) (fun q_1 => bnd (f_X3_put q_1 ((48 : Int32) + (x0 - x0 / (10 : Int32) * (10 : Int32)))) (fun q_3 => some q_3))
set_option maxHeartbeats 4000000 in
set_option maxRecDepth 100000 in
theorem c_X3_putTwo (l : Launch) (D : Dx) (hT : Nat) (aT : Nat → Nat) (yT : Nat → ClassId) (gT : Gs) (x0 : Int32) (q : Gs) (hF : f_X3_putTwo gT x0 = some q) (sz : Nat) : Met l yX3_putTwo (ws_ yX3_putTwo cX3_putTwo 2 none) R_X3_putTwo (PC D (tX3 yT) [.ref hT, .int x0] (wX3 hT aT yT gT) sz) (QV D (va_A (wX3 hT aT yT gT) sz) (wX3 hT aT yT q)) 0 0 (va_A (wX3 hT aT yT gT) sz) := by
  refine Met.ofW (cc := cX3_putTwo) (maxL := 2) (ret := none) (by decide) rfl ?_
  intro p e s m args below meth c s₁ B hml hv
  obtain ⟨rfl, hsz, hP, hK, hD, hN⟩ := hv
  subst hsz
  have C : Cx p s m _ meth c cX3_putTwo none 2 RX3 lw_all := Cx_of B hml
  have X := Hx_start hP hK hD hN
  obtain ⟨hx, hb, hr, -, hown, hts, hlk⟩ := id C
  generalize va_A (wX3 hT aT yT gT) s.heap.size = A at X ⊢
  have hl := lv_entry ([.ref hT, .int x0]) (n := 2) (Nat.le_of_ble_eq_true rfl)
  rw [lg_entry_eq]
  generalize (lg_sl ([.ref hT, .int x0]) ++ List.replicate (2 - (lg_sl ([.ref hT, .int x0])).length) Slot.unset).toArray = ls at hl ⊢
  have hl : lv_has ls 2 [(0, .ref hT), (1, .int x0)] := hl
  unfold f_X3_putTwo at hF
  refine lv_aload_n hx hb dX3_putTwo_0 rfl (lv_at hl 0 rfl) ?_
  refine lv_bipush (v := (48 : Int32)) hx hb dX3_putTwo_1 (by decide) ?_
  refine lv_iload_n hx hb dX3_putTwo_3 rfl (lv_at hl 1 rfl) ?_
  refine lv_bipush (v := (10 : Int32)) hx hb dX3_putTwo_4 (by decide) ?_
  refine lv_idiv hx hb dX3_putTwo_6 (by decide) ?_
  refine lv_iadd hx hb dX3_putTwo_7 ?_
  obtain ⟨q_1, hc_2, hF⟩ := bnd_some hF
  refine cV_v (As := [.int ((48 : Int32) + (x0 / (10 : Int32)))]) (rest := []) C X (c_X3_put l D hT aT yT gT ((48 : Int32) + (x0 / (10 : Int32))) q_1 hc_2 _) (cwV 1 hts (good_V q6_50 q6_51 q6_52 q1_5 q6_53) rfl rfl rfl (by decide +kernel) ⟨Nat.le_of_ble_eq_true rfl, Nat.le_of_ble_eq_true rfl⟩) (va_recv X.1 X.2.1 (ci := 3) (q0 := 0) rfl rfl) X.1 X.2.1 X.2.2.1 (free_all X) hl.1 rfl rfl (Nat.le_of_ble_eq_true rfl) dX3_putTwo_8 ⟨Nat.le_of_ble_eq_true rfl, Nat.le_of_ble_eq_true rfl⟩ (fun t H1 locs1 ht hB hk hS => ?_)
  have X : Hx D (tX3 yT) A s H1 locs1 (wX3 hT aT yT q_1) := Hx_after_all X ht hB hS
  clear hk hS ht hB
  generalize H1 = H at X ⊢
  generalize locs1 = locs at X ⊢
  refine lv_aload_n hx hb dX3_putTwo_11 rfl (lv_at hl 0 rfl) ?_
  refine lv_bipush (v := (48 : Int32)) hx hb dX3_putTwo_12 (by decide) ?_
  refine lv_iload_n hx hb dX3_putTwo_14 rfl (lv_at hl 1 rfl) ?_
  refine lv_bipush (v := (10 : Int32)) hx hb dX3_putTwo_15 (by decide) ?_
  refine lv_irem hx hb dX3_putTwo_17 (by decide) ?_
  refine lv_iadd hx hb dX3_putTwo_18 ?_
  obtain ⟨q_3, hc_4, hF⟩ := bnd_some hF
  refine cV_v (As := [.int ((48 : Int32) + (x0 - x0 / (10 : Int32) * (10 : Int32)))]) (rest := []) C X (c_X3_put l D hT aT yT q_1 ((48 : Int32) + (x0 - x0 / (10 : Int32) * (10 : Int32))) q_3 hc_4 _) (cwV 1 hts (good_V q6_50 q6_51 q6_52 q1_5 q6_53) rfl rfl rfl (by decide +kernel) ⟨Nat.le_of_ble_eq_true rfl, Nat.le_of_ble_eq_true rfl⟩) (va_recv X.1 X.2.1 (ci := 3) (q0 := 0) rfl rfl) X.1 X.2.1 X.2.2.1 (free_all X) hl.1 rfl rfl (Nat.le_of_ble_eq_true rfl) dX3_putTwo_19 ⟨Nat.le_of_ble_eq_true rfl, Nat.le_of_ble_eq_true rfl⟩ (fun t H1 locs1 ht hB hk hS => ?_)
  have X : Hx D (tX3 yT) A s H1 locs1 (wX3 hT aT yT q_3) := Hx_after_all X ht hB hS
  clear hk hS ht hB
  generalize H1 = H at X ⊢
  generalize locs1 = locs at X ⊢
  have hq := Option.some.inj hF
  subst hq
  exact rt_v C X dX3_putTwo_22

/-! ### X3_putWhole -/
theorem dX3_putWhole_0 : decode cX3_putWhole 0 = .ok (.lconst 1, 1) := by decide +kernel
theorem dX3_putWhole_1 : decode cX3_putWhole 1 = .ok (.lstore_n 3, 1) := by decide +kernel
theorem dX3_putWhole_2 : decode cX3_putWhole 2 = .ok (.iconst 0, 1) := by decide +kernel
theorem dX3_putWhole_3 : decode cX3_putWhole 3 = .ok (.istore 5, 2) := by decide +kernel
theorem dX3_putWhole_5 : decode cX3_putWhole 5 = .ok (.iload 5, 2) := by decide +kernel
theorem dX3_putWhole_7 : decode cX3_putWhole 7 = .ok (.bipush 18, 2) := by decide +kernel
theorem dX3_putWhole_9 : decode cX3_putWhole 9 = .ok (.if_icmp .ge 25, 3) := by decide +kernel
theorem dX3_putWhole_12 : decode cX3_putWhole 12 = .ok (.lload_n 3, 1) := by decide +kernel
theorem dX3_putWhole_13 : decode cX3_putWhole 13 = .ok (.lload_n 1, 1) := by decide +kernel
theorem dX3_putWhole_14 : decode cX3_putWhole 14 = .ok (.ldc2_w 43, 3) := by decide +kernel
theorem dX3_putWhole_17 : decode cX3_putWhole 17 = .ok (.ldiv, 1) := by decide +kernel
theorem dX3_putWhole_18 : decode cX3_putWhole 18 = .ok (.lcmp, 1) := by decide +kernel
theorem dX3_putWhole_19 : decode cX3_putWhole 19 = .ok (.ifCond .gt 15, 3) := by decide +kernel
theorem dX3_putWhole_22 : decode cX3_putWhole 22 = .ok (.lload_n 3, 1) := by decide +kernel
theorem dX3_putWhole_23 : decode cX3_putWhole 23 = .ok (.ldc2_w 43, 3) := by decide +kernel
theorem dX3_putWhole_26 : decode cX3_putWhole 26 = .ok (.lmul, 1) := by decide +kernel
theorem dX3_putWhole_27 : decode cX3_putWhole 27 = .ok (.lstore_n 3, 1) := by decide +kernel
theorem dX3_putWhole_28 : decode cX3_putWhole 28 = .ok (.iinc 5 1, 3) := by decide +kernel
theorem dX3_putWhole_31 : decode cX3_putWhole 31 = .ok (.goto (-26), 3) := by decide +kernel
theorem dX3_putWhole_34 : decode cX3_putWhole 34 = .ok (.lload_n 3, 1) := by decide +kernel
theorem dX3_putWhole_35 : decode cX3_putWhole 35 = .ok (.lstore 5, 2) := by decide +kernel
theorem dX3_putWhole_37 : decode cX3_putWhole 37 = .ok (.lload 5, 2) := by decide +kernel
theorem dX3_putWhole_39 : decode cX3_putWhole 39 = .ok (.lconst 0, 1) := by decide +kernel
theorem dX3_putWhole_40 : decode cX3_putWhole 40 = .ok (.lcmp, 1) := by decide +kernel
theorem dX3_putWhole_41 : decode cX3_putWhole 41 = .ok (.ifCond .le 30, 3) := by decide +kernel
theorem dX3_putWhole_44 : decode cX3_putWhole 44 = .ok (.aload_n 0, 1) := by decide +kernel
theorem dX3_putWhole_45 : decode cX3_putWhole 45 = .ok (.bipush 48, 2) := by decide +kernel
theorem dX3_putWhole_47 : decode cX3_putWhole 47 = .ok (.lload_n 1, 1) := by decide +kernel
theorem dX3_putWhole_48 : decode cX3_putWhole 48 = .ok (.lload 5, 2) := by decide +kernel
theorem dX3_putWhole_50 : decode cX3_putWhole 50 = .ok (.ldiv, 1) := by decide +kernel
theorem dX3_putWhole_51 : decode cX3_putWhole 51 = .ok (.ldc2_w 43, 3) := by decide +kernel
theorem dX3_putWhole_54 : decode cX3_putWhole 54 = .ok (.lrem, 1) := by decide +kernel
theorem dX3_putWhole_55 : decode cX3_putWhole 55 = .ok (.l2i, 1) := by decide +kernel
theorem dX3_putWhole_56 : decode cX3_putWhole 56 = .ok (.iadd, 1) := by decide +kernel
theorem dX3_putWhole_57 : decode cX3_putWhole 57 = .ok (.invokevirtual 23, 3) := by decide +kernel
theorem dX3_putWhole_60 : decode cX3_putWhole 60 = .ok (.lload 5, 2) := by decide +kernel
theorem dX3_putWhole_62 : decode cX3_putWhole 62 = .ok (.ldc2_w 43, 3) := by decide +kernel
theorem dX3_putWhole_65 : decode cX3_putWhole 65 = .ok (.ldiv, 1) := by decide +kernel
theorem dX3_putWhole_66 : decode cX3_putWhole 66 = .ok (.lstore 5, 2) := by decide +kernel
theorem dX3_putWhole_68 : decode cX3_putWhole 68 = .ok (.goto (-31), 3) := by decide +kernel
theorem dX3_putWhole_71 : decode cX3_putWhole 71 = .ok (.return_, 1) := by decide +kernel
abbrev R_X3_putWhole : Room := ({ frames := 1, cells := 0, slots := 0, locals := 21 } : Room)
def h_X3_putWhole_37 (n : Nat) (rec : (Gs → Int64 → Int64 → Int32 → Option (Gs)) × (Gs → Int64 → Int64 → Option (Gs))) (gT : Gs) (v1 : Int64) (v5 : Int64) : Option (Gs) :=
  if v5 ≤ (0 : Int64) then (some gT) else (grd (nzL v5) (bnd (f_X3_put gT ((48 : Int32) + (((v1 / v5) - (v1 / v5) / (10 : Int64) * (10 : Int64)).toInt32))) (fun q_2 => rec.2 q_2 v1 (v5 / (10 : Int64)))))
def b_X3_putWhole_34 (n : Nat) (rec : (Gs → Int64 → Int64 → Int32 → Option (Gs)) × (Gs → Int64 → Int64 → Option (Gs))) (gT : Gs) (v1 : Int64) (v3 : Int64) : Option (Gs) :=
  rec.2 gT v1 v3
def h_X3_putWhole_5 (n : Nat) (rec : (Gs → Int64 → Int64 → Int32 → Option (Gs)) × (Gs → Int64 → Int64 → Option (Gs))) (gT : Gs) (v1 : Int64) (v3 : Int64) (v5 : Int32) : Option (Gs) :=
  if (18 : Int32) ≤ v5 then (b_X3_putWhole_34 n rec gT v1 v3) else (if (v1 / (10 : Int64)) < v3 then (b_X3_putWhole_34 n rec gT v1 v3) else (rec.1 gT v1 (v3 * (10 : Int64)) (v5 + (1 : Int32))))
def L_X3_putWhole (n : Nat) : Nat → ((Gs → Int64 → Int64 → Int32 → Option (Gs)) × (Gs → Int64 → Int64 → Option (Gs)))
  | 0 => ((fun _ _ _ _ => none), (fun _ _ _ => none))
  | k + 1 => (h_X3_putWhole_5 n (L_X3_putWhole n k), h_X3_putWhole_37 n (L_X3_putWhole n k))
def f_X3_putWhole (n : Nat) (gT : Gs) (x0 : Int64) : Option (Gs) :=
  (L_X3_putWhole n n).1 gT x0 (1 : Int64) (0 : Int32)
def S_X3_putWhole_37 (l : Launch) (D : Dx) (hT : Nat) (aT : Nat → Nat) (yT : Nat → ClassId) (fn : Gs → Int64 → Int64 → Option (Gs)) : Prop :=
  ∀ {p : Program} {e : Env} {s : State} {m : MethodId} {args : Array Value} {below : List Frame} {meth : Method} {c : Code} {H : Heap} {locs : List Loc} {A : Nat → Prop} {ls : Array Slot} {gT : Gs} {v1 : Int64} {v5 : Int64} {q : Gs}, Cx p s m args meth c cX3_putWhole none 7 RX3 lw_all → Hx D (tX3 yT) A s H locs (wX3 hT aT yT gT) → lv_has ls 7 [(0, .ref hT), (1, .long v1), (5, .long v5)] → fn gT v1 v5 = some q → W p l e R_X3_putWhole s m args below meth c H locs 0 0 (MQ below (QV D A (wX3 hT aT yT q)) args s 0 0 A) (F0 m 37 ls [])
def S_X3_putWhole_34 (l : Launch) (D : Dx) (hT : Nat) (aT : Nat → Nat) (yT : Nat → ClassId) (fn : Gs → Int64 → Int64 → Option (Gs)) : Prop :=
  ∀ {p : Program} {e : Env} {s : State} {m : MethodId} {args : Array Value} {below : List Frame} {meth : Method} {c : Code} {H : Heap} {locs : List Loc} {A : Nat → Prop} {ls : Array Slot} {gT : Gs} {v1 : Int64} {v3 : Int64} {q : Gs}, Cx p s m args meth c cX3_putWhole none 7 RX3 lw_all → Hx D (tX3 yT) A s H locs (wX3 hT aT yT gT) → lv_has ls 7 [(0, .ref hT), (1, .long v1), (3, .long v3)] → fn gT v1 v3 = some q → W p l e R_X3_putWhole s m args below meth c H locs 0 0 (MQ below (QV D A (wX3 hT aT yT q)) args s 0 0 A) (F0 m 34 ls [])
def S_X3_putWhole_5 (l : Launch) (D : Dx) (hT : Nat) (aT : Nat → Nat) (yT : Nat → ClassId) (fn : Gs → Int64 → Int64 → Int32 → Option (Gs)) : Prop :=
  ∀ {p : Program} {e : Env} {s : State} {m : MethodId} {args : Array Value} {below : List Frame} {meth : Method} {c : Code} {H : Heap} {locs : List Loc} {A : Nat → Prop} {ls : Array Slot} {gT : Gs} {v1 : Int64} {v3 : Int64} {v5 : Int32} {q : Gs}, Cx p s m args meth c cX3_putWhole none 7 RX3 lw_all → Hx D (tX3 yT) A s H locs (wX3 hT aT yT gT) → lv_has ls 7 [(0, .ref hT), (1, .long v1), (3, .long v3), (5, .int v5)] → fn gT v1 v3 v5 = some q → W p l e R_X3_putWhole s m args below meth c H locs 0 0 (MQ below (QV D A (wX3 hT aT yT q)) args s 0 0 A) (F0 m 5 ls [])
def SH_X3_putWhole (l : Launch) (D : Dx) (hT : Nat) (aT : Nat → Nat) (yT : Nat → ClassId) (rec : (Gs → Int64 → Int64 → Int32 → Option (Gs)) × (Gs → Int64 → Int64 → Option (Gs))) : Prop := S_X3_putWhole_5 l D hT aT yT rec.1 ∧ S_X3_putWhole_37 l D hT aT yT rec.2
set_option maxHeartbeats 4000000 in
set_option maxRecDepth 100000 in
theorem k_X3_putWhole_37 (l : Launch) (D : Dx) (hT : Nat) (aT : Nat → Nat) (yT : Nat → ClassId) (n : Nat) (rec : (Gs → Int64 → Int64 → Int32 → Option (Gs)) × (Gs → Int64 → Int64 → Option (Gs))) (IH : SH_X3_putWhole l D hT aT yT rec) : S_X3_putWhole_37 l D hT aT yT (h_X3_putWhole_37 n rec) := by
  intro p e s m args below meth c H locs A ls gT v1 v5 q C X hl hF
  obtain ⟨hx, hb, hr, hml, hown, hts, hlk⟩ := id C
  unfold h_X3_putWhole_37 at hF
  refine lv_lload hx hb dX3_putWhole_37 (lv_at hl 2 rfl) ?_
  refine lv_lconst (v := (0 : Int64)) hx hb dX3_putWhole_39 (by decide) ?_
  refine W.lcmp hx hb dX3_putWhole_40 ?_
  refine lv_if_le (tgt := 71) hx hb dX3_putWhole_41 (by decide) (fun c => ?_) (fun c => ?_)
  · have c := (lg_cmp_le _ _).mp c
    replace hF := iT c hF
    have hq := Option.some.inj hF
    subst hq
    exact rt_v C X dX3_putWhole_71
  · have c := fun h => c ((lg_cmp_le _ _).mpr h)
    replace hF := iF c hF
    refine lv_aload_n hx hb dX3_putWhole_44 rfl (lv_at hl 0 rfl) ?_
    refine lv_bipush (v := (48 : Int32)) hx hb dX3_putWhole_45 (by decide) ?_
    refine lv_lload_n hx hb dX3_putWhole_47 rfl (lv_at hl 1 rfl) ?_
    refine lv_lload hx hb dX3_putWhole_48 (lv_at hl 2 rfl) ?_
    obtain ⟨h_1, hF⟩ := grd_some hF
    refine lv_ldiv hx hb dX3_putWhole_50 (nzL_ok h_1) ?_
    refine lv_ldc2 hx hb hown (hts _ q6_59) dX3_putWhole_51 ?_
    refine lv_lrem hx hb dX3_putWhole_54 (by decide) ?_
    refine lv_l2i hx hb dX3_putWhole_55 rfl ?_
    refine lv_iadd hx hb dX3_putWhole_56 ?_
    obtain ⟨q_2, hc_3, hF⟩ := bnd_some hF
    refine cV_v (As := [.int ((48 : Int32) + (((v1 / v5) - (v1 / v5) / (10 : Int64) * (10 : Int64)).toInt32))]) (rest := []) C X (c_X3_put l D hT aT yT gT ((48 : Int32) + (((v1 / v5) - (v1 / v5) / (10 : Int64) * (10 : Int64)).toInt32)) q_2 hc_3 _) (cwV 1 hts (good_V q6_50 q6_51 q6_52 q1_5 q6_53) rfl rfl rfl (by decide +kernel) ⟨Nat.le_of_ble_eq_true rfl, Nat.le_of_ble_eq_true rfl⟩) (va_recv X.1 X.2.1 (ci := 3) (q0 := 0) rfl rfl) X.1 X.2.1 X.2.2.1 (free_all X) hl.1 rfl rfl (Nat.le_of_ble_eq_true rfl) dX3_putWhole_57 ⟨Nat.le_of_ble_eq_true rfl, Nat.le_of_ble_eq_true rfl⟩ (fun t H1 locs1 ht hB hk hS => ?_)
    have X : Hx D (tX3 yT) A s H1 locs1 (wX3 hT aT yT q_2) := Hx_after_all X ht hB hS
    clear hk hS ht hB
    generalize H1 = H at X ⊢
    generalize locs1 = locs at X ⊢
    refine lv_lload hx hb dX3_putWhole_60 (lv_at hl 2 rfl) ?_
    refine lv_ldc2 hx hb hown (hts _ q6_59) dX3_putWhole_62 ?_
    refine lv_ldiv hx hb dX3_putWhole_65 (by decide) ?_
    refine lv_lstore (lv' := [(5, .long (v5 / (10 : Int64))), (0, .ref hT), (1, .long v1)]) hx hb dX3_putWhole_66 hl (by decide) rfl (fun ls hl => ?_)
    refine lv_goto (tgt := 37) hx hb dX3_putWhole_68 (by decide) ?_
    exact IH.2 C X (lv_sub hl [1, 2, 0] rfl) hF
set_option maxHeartbeats 4000000 in
set_option maxRecDepth 100000 in
theorem k_X3_putWhole_34 (l : Launch) (D : Dx) (hT : Nat) (aT : Nat → Nat) (yT : Nat → ClassId) (n : Nat) (rec : (Gs → Int64 → Int64 → Int32 → Option (Gs)) × (Gs → Int64 → Int64 → Option (Gs))) (IH : SH_X3_putWhole l D hT aT yT rec) : S_X3_putWhole_34 l D hT aT yT (b_X3_putWhole_34 n rec) := by
  intro p e s m args below meth c H locs A ls gT v1 v3 q C X hl hF
  obtain ⟨hx, hb, hr, hml, hown, hts, hlk⟩ := id C
  unfold b_X3_putWhole_34 at hF
  refine lv_lload_n hx hb dX3_putWhole_34 rfl (lv_at hl 2 rfl) ?_
  refine lv_lstore (lv' := [(5, .long v3), (0, .ref hT), (1, .long v1), (3, .long v3)]) hx hb dX3_putWhole_35 hl (by decide) rfl (fun ls hl => ?_)
  exact IH.2 C X (lv_sub hl [1, 2, 0] rfl) hF
set_option maxHeartbeats 4000000 in
set_option maxRecDepth 100000 in
theorem k_X3_putWhole_5 (l : Launch) (D : Dx) (hT : Nat) (aT : Nat → Nat) (yT : Nat → ClassId) (n : Nat) (rec : (Gs → Int64 → Int64 → Int32 → Option (Gs)) × (Gs → Int64 → Int64 → Option (Gs))) (IH : SH_X3_putWhole l D hT aT yT rec) : S_X3_putWhole_5 l D hT aT yT (h_X3_putWhole_5 n rec) := by
  intro p e s m args below meth c H locs A ls gT v1 v3 v5 q C X hl hF
  obtain ⟨hx, hb, hr, hml, hown, hts, hlk⟩ := id C
  unfold h_X3_putWhole_5 at hF
  refine lv_iload hx hb dX3_putWhole_5 (lv_at hl 3 rfl) ?_
  refine lv_bipush (v := (18 : Int32)) hx hb dX3_putWhole_7 (by decide) ?_
  refine lv_icmp_ge (tgt := 34) hx hb dX3_putWhole_9 (by decide) (fun c => ?_) (fun c => ?_)
  · replace hF := iT c hF
    exact (k_X3_putWhole_34 l D hT aT yT n rec IH) C X (lv_sub hl [0, 1, 2] rfl) hF
  · replace hF := iF c hF
    refine lv_lload_n hx hb dX3_putWhole_12 rfl (lv_at hl 2 rfl) ?_
    refine lv_lload_n hx hb dX3_putWhole_13 rfl (lv_at hl 1 rfl) ?_
    refine lv_ldc2 hx hb hown (hts _ q6_59) dX3_putWhole_14 ?_
    refine lv_ldiv hx hb dX3_putWhole_17 (by decide) ?_
    refine W.lcmp hx hb dX3_putWhole_18 ?_
    refine lv_if_gt (tgt := 34) hx hb dX3_putWhole_19 (by decide) (fun c => ?_) (fun c => ?_)
    · have c := (lg_cmp_gt _ _).mp c
      replace hF := iT c hF
      exact (k_X3_putWhole_34 l D hT aT yT n rec IH) C X (lv_sub hl [0, 1, 2] rfl) hF
    · have c := fun h => c ((lg_cmp_gt _ _).mpr h)
      replace hF := iF c hF
      refine lv_lload_n hx hb dX3_putWhole_22 rfl (lv_at hl 2 rfl) ?_
      refine lv_ldc2 hx hb hown (hts _ q6_59) dX3_putWhole_23 ?_
      refine lv_lmul hx hb dX3_putWhole_26 ?_
      refine lv_lstore_n (lv' := [(3, .long (v3 * (10 : Int64))), (0, .ref hT), (1, .long v1), (5, .int v5)]) hx hb dX3_putWhole_27 rfl hl (by decide) rfl (fun ls hl => ?_)
      refine lv_iinc (v := v5 + (1 : Int32)) (lv' := [(5, .int (v5 + (1 : Int32))), (3, .long (v3 * (10 : Int64))), (0, .ref hT), (1, .long v1)]) hx hb dX3_putWhole_28 hl (k := 3) rfl rfl (by decide) rfl (fun ls hl => ?_)
      refine lv_goto (tgt := 5) hx hb dX3_putWhole_31 (by decide) ?_
      exact IH.1 C X (lv_sub hl [2, 3, 1, 0] rfl) hF
theorem kL_X3_putWhole (l : Launch) (D : Dx) (hT : Nat) (aT : Nat → Nat) (yT : Nat → ClassId) (n : Nat) : ∀ k, SH_X3_putWhole l D hT aT yT (L_X3_putWhole n k)
  | 0 => ⟨(fun _ _ _ h => by cases h), (fun _ _ _ h => by cases h)⟩
  | k + 1 => ⟨k_X3_putWhole_5 l D hT aT yT n _ (kL_X3_putWhole l D hT aT yT n k), k_X3_putWhole_37 l D hT aT yT n _ (kL_X3_putWhole l D hT aT yT n k)⟩
set_option maxHeartbeats 4000000 in
set_option maxRecDepth 100000 in
theorem c_X3_putWhole (l : Launch) (D : Dx) (hT : Nat) (aT : Nat → Nat) (yT : Nat → ClassId) (n : Nat) (gT : Gs) (x0 : Int64) (q : Gs) (hF : f_X3_putWhole n gT x0 = some q) (sz : Nat) : Met l yX3_putWhole (ws_ yX3_putWhole cX3_putWhole 7 none) R_X3_putWhole (PC D (tX3 yT) [.ref hT, .long x0] (wX3 hT aT yT gT) sz) (QV D (va_A (wX3 hT aT yT gT) sz) (wX3 hT aT yT q)) 0 0 (va_A (wX3 hT aT yT gT) sz) := by
  refine Met.ofW (cc := cX3_putWhole) (maxL := 7) (ret := none) (by decide) rfl ?_
  intro p e s m args below meth c s₁ B hml hv
  obtain ⟨rfl, hsz, hP, hK, hD, hN⟩ := hv
  subst hsz
  have C : Cx p s m _ meth c cX3_putWhole none 7 RX3 lw_all := Cx_of B hml
  have X := Hx_start hP hK hD hN
  obtain ⟨hx, hb, hr, -, hown, hts, hlk⟩ := id C
  generalize va_A (wX3 hT aT yT gT) s.heap.size = A at X ⊢
  have hl := lv_entry ([.ref hT, .long x0]) (n := 7) (Nat.le_of_ble_eq_true rfl)
  rw [lg_entry_eq]
  generalize (lg_sl ([.ref hT, .long x0]) ++ List.replicate (7 - (lg_sl ([.ref hT, .long x0])).length) Slot.unset).toArray = ls at hl ⊢
  have hl : lv_has ls 7 [(0, .ref hT), (1, .long x0)] := hl
  unfold f_X3_putWhole at hF
  refine lv_lconst (v := (1 : Int64)) hx hb dX3_putWhole_0 (by decide) ?_
  refine lv_lstore_n (lv' := [(3, .long (1 : Int64)), (0, .ref hT), (1, .long x0)]) hx hb dX3_putWhole_1 rfl hl (by decide) rfl (fun ls hl => ?_)
  refine lv_iconst (v := (0 : Int32)) hx hb dX3_putWhole_2 (by decide) ?_
  refine lv_istore (lv' := [(5, .int (0 : Int32)), (3, .long (1 : Int64)), (0, .ref hT), (1, .long x0)]) hx hb dX3_putWhole_3 hl (by decide) rfl (fun ls hl => ?_)
  exact (kL_X3_putWhole l D hT aT yT n n).1 C X (lv_sub hl [2, 3, 1, 0] rfl) hF

/-! ### X3_putReal -/
theorem dX3_putReal_0 : decode cX3_putReal 0 = .ok (.dload_n 1, 1) := by decide +kernel
theorem dX3_putReal_1 : decode cX3_putReal 1 = .ok (.dconst 0, 1) := by decide +kernel
theorem dX3_putReal_2 : decode cX3_putReal 2 = .ok (.dcmp .g, 1) := by decide +kernel
theorem dX3_putReal_3 : decode cX3_putReal 3 = .ok (.ifCond .ge 9, 3) := by decide +kernel
theorem dX3_putReal_6 : decode cX3_putReal 6 = .ok (.aload_n 0, 1) := by decide +kernel
theorem dX3_putReal_7 : decode cX3_putReal 7 = .ok (.bipush 45, 2) := by decide +kernel
theorem dX3_putReal_9 : decode cX3_putReal 9 = .ok (.invokevirtual 23, 3) := by decide +kernel
theorem dX3_putReal_12 : decode cX3_putReal 12 = .ok (.dload_n 1, 1) := by decide +kernel
theorem dX3_putReal_13 : decode cX3_putReal 13 = .ok (.invokestatic 27, 3) := by decide +kernel
theorem dX3_putReal_16 : decode cX3_putReal 16 = .ok (.dstore 4, 2) := by decide +kernel
theorem dX3_putReal_18 : decode cX3_putReal 18 = .ok (.aload_n 0, 1) := by decide +kernel
theorem dX3_putReal_19 : decode cX3_putReal 19 = .ok (.dload 4, 2) := by decide +kernel
theorem dX3_putReal_21 : decode cX3_putReal 21 = .ok (.d2l, 1) := by decide +kernel
theorem dX3_putReal_22 : decode cX3_putReal 22 = .ok (.invokevirtual 33, 3) := by decide +kernel
theorem dX3_putReal_25 : decode cX3_putReal 25 = .ok (.iload_n 3, 1) := by decide +kernel
theorem dX3_putReal_26 : decode cX3_putReal 26 = .ok (.ifCond .le 9, 3) := by decide +kernel
theorem dX3_putReal_29 : decode cX3_putReal 29 = .ok (.aload_n 0, 1) := by decide +kernel
theorem dX3_putReal_30 : decode cX3_putReal 30 = .ok (.bipush 46, 2) := by decide +kernel
theorem dX3_putReal_32 : decode cX3_putReal 32 = .ok (.invokevirtual 23, 3) := by decide +kernel
theorem dX3_putReal_35 : decode cX3_putReal 35 = .ok (.aload_n 0, 1) := by decide +kernel
theorem dX3_putReal_36 : decode cX3_putReal 36 = .ok (.getfield 19, 3) := by decide +kernel
theorem dX3_putReal_39 : decode cX3_putReal 39 = .ok (.dload 4, 2) := by decide +kernel
theorem dX3_putReal_41 : decode cX3_putReal 41 = .ok (.dconst 1, 1) := by decide +kernel
theorem dX3_putReal_42 : decode cX3_putReal 42 = .ok (.invokevirtual 37, 3) := by decide +kernel
theorem dX3_putReal_45 : decode cX3_putReal 45 = .ok (.dstore 6, 2) := by decide +kernel
theorem dX3_putReal_47 : decode cX3_putReal 47 = .ok (.iconst 0, 1) := by decide +kernel
theorem dX3_putReal_48 : decode cX3_putReal 48 = .ok (.istore 8, 2) := by decide +kernel
theorem dX3_putReal_50 : decode cX3_putReal 50 = .ok (.iload 8, 2) := by decide +kernel
theorem dX3_putReal_52 : decode cX3_putReal 52 = .ok (.iload_n 3, 1) := by decide +kernel
theorem dX3_putReal_53 : decode cX3_putReal 53 = .ok (.if_icmp .ge 39, 3) := by decide +kernel
theorem dX3_putReal_56 : decode cX3_putReal 56 = .ok (.dload 6, 2) := by decide +kernel
theorem dX3_putReal_58 : decode cX3_putReal 58 = .ok (.ldc2_w 41, 3) := by decide +kernel
theorem dX3_putReal_61 : decode cX3_putReal 61 = .ok (.dmul, 1) := by decide +kernel
theorem dX3_putReal_62 : decode cX3_putReal 62 = .ok (.dstore 6, 2) := by decide +kernel
theorem dX3_putReal_64 : decode cX3_putReal 64 = .ok (.dload 6, 2) := by decide +kernel
theorem dX3_putReal_66 : decode cX3_putReal 66 = .ok (.d2i, 1) := by decide +kernel
theorem dX3_putReal_67 : decode cX3_putReal 67 = .ok (.istore 9, 2) := by decide +kernel
theorem dX3_putReal_69 : decode cX3_putReal 69 = .ok (.aload_n 0, 1) := by decide +kernel
theorem dX3_putReal_70 : decode cX3_putReal 70 = .ok (.bipush 48, 2) := by decide +kernel
theorem dX3_putReal_72 : decode cX3_putReal 72 = .ok (.iload 9, 2) := by decide +kernel
theorem dX3_putReal_74 : decode cX3_putReal 74 = .ok (.iadd, 1) := by decide +kernel
theorem dX3_putReal_75 : decode cX3_putReal 75 = .ok (.invokevirtual 23, 3) := by decide +kernel
theorem dX3_putReal_78 : decode cX3_putReal 78 = .ok (.dload 6, 2) := by decide +kernel
theorem dX3_putReal_80 : decode cX3_putReal 80 = .ok (.iload 9, 2) := by decide +kernel
theorem dX3_putReal_82 : decode cX3_putReal 82 = .ok (.i2d, 1) := by decide +kernel
theorem dX3_putReal_83 : decode cX3_putReal 83 = .ok (.dsub, 1) := by decide +kernel
theorem dX3_putReal_84 : decode cX3_putReal 84 = .ok (.dstore 6, 2) := by decide +kernel
theorem dX3_putReal_86 : decode cX3_putReal 86 = .ok (.iinc 8 1, 3) := by decide +kernel
theorem dX3_putReal_89 : decode cX3_putReal 89 = .ok (.goto (-39), 3) := by decide +kernel
theorem dX3_putReal_92 : decode cX3_putReal 92 = .ok (.return_, 1) := by decide +kernel
abbrev R_X3_putReal : Room := ({ frames := 2, cells := 0, slots := 0, locals := 100 } : Room)
def h_X3_putReal_50 (n : Nat) (rec : (Gs → Gs → Int32 → UInt64 → Int32 → Option (Gs))) (gT : Gs) (gT_0 : Gs) (v3 : Int32) (v6 : UInt64) (v8 : Int32) : Option (Gs) :=
  if v3 ≤ v8 then (some gT) else (grd (n64 (FP.dmul v6 (4621819117588971520 : UInt64))) (bnd (f_X3_put gT ((48 : Int32) + (FP.d2i (FP.dmul v6 (4621819117588971520 : UInt64))))) (fun q_8 => grd (n64 (FP.dsub (FP.dmul v6 (4621819117588971520 : UInt64)) (FP.i2d (FP.d2i (FP.dmul v6 (4621819117588971520 : UInt64)))))) (rec q_8 gT_0 v3 (FP.dsub (FP.dmul v6 (4621819117588971520 : UInt64)) (FP.i2d (FP.d2i (FP.dmul v6 (4621819117588971520 : UInt64))))) (v8 + (1 : Int32))))))
def b_X3_putReal_35 (n : Nat) (rec : (Gs → Gs → Int32 → UInt64 → Int32 → Option (Gs))) (gT : Gs) (gT_0 : Gs) (v3 : Int32) (v4 : UInt64) : Option (Gs) :=
  bnd (f_X6_remainder n gT_0 v4 FP.dconst1) (fun q_5 => rec gT gT_0 v3 q_5 (0 : Int32))
def b_X3_putReal_12 (n : Nat) (rec : (Gs → Gs → Int32 → UInt64 → Int32 → Option (Gs))) (gT : Gs) (gT_0 : Gs) (v1 : UInt64) (v3 : Int32) : Option (Gs) :=
  bnd (f_X6_sizeOf v1) (fun q_1 => bnd (f_X3_putWhole n gT (FP.d2l q_1)) (fun q_3 => if v3 ≤ 0 then (b_X3_putReal_35 n rec q_3 gT_0 v3 q_1) else (bnd (f_X3_put q_3 (46 : Int32)) (fun q_11 => b_X3_putReal_35 n rec q_11 gT_0 v3 q_1))))
def L_X3_putReal (n : Nat) : Nat → (Gs → Gs → Int32 → UInt64 → Int32 → Option (Gs))
  | 0 => ((fun _ _ _ _ _ => none))
  | k + 1 => (h_X3_putReal_50 n (L_X3_putReal n k))
def f_X3_putReal (n : Nat) (gT : Gs) (gT_0 : Gs) (x0 : UInt64) (x1 : Int32) : Option (Gs) :=
  if 0 ≤ (Op.cmpValue (FP.dcmp x0 FP.dconst0) .g) then (b_X3_putReal_12 n (L_X3_putReal n n) gT gT_0 x0 x1) else (bnd (f_X3_put gT (45 : Int32)) (fun q_13 => b_X3_putReal_12 n (L_X3_putReal n n) q_13 gT_0 x0 x1))
def S_X3_putReal_50 (l : Launch) (D : Dx) (hT : Nat) (aT : Nat → Nat) (yT : Nat → ClassId) (aT_0 : Nat → Nat) (yT_0 : Nat → ClassId) (fn : Gs → Gs → Int32 → UInt64 → Int32 → Option (Gs)) : Prop :=
  ∀ {p : Program} {e : Env} {s : State} {m : MethodId} {args : Array Value} {below : List Frame} {meth : Method} {c : Code} {H : Heap} {locs : List Loc} {A : Nat → Prop} {ls : Array Slot} {gT : Gs} {gT_0 : Gs} {v3 : Int32} {v6 : UInt64} {v8 : Int32} {q : Gs}, Cx p s m args meth c cX3_putReal none 10 RX3 lw_all → Hx D (tX3 yT ++ (tX6 yT_0)) A s H locs (wX3 hT aT yT gT ++ (wX6 (aT 0) aT_0 yT_0 gT_0)) → lv_has ls 10 [(0, .ref hT), (3, .int v3), (6, .double v6), (8, .int v8)] → fn gT gT_0 v3 v6 v8 = some q → W p l e R_X3_putReal s m args below meth c H locs 0 0 (MQ below (QV D A (wX3 hT aT yT q ++ (wX6 (aT 0) aT_0 yT_0 gT_0))) args s 0 0 A) (F0 m 50 ls [])
def S_X3_putReal_35 (l : Launch) (D : Dx) (hT : Nat) (aT : Nat → Nat) (yT : Nat → ClassId) (aT_0 : Nat → Nat) (yT_0 : Nat → ClassId) (fn : Gs → Gs → Int32 → UInt64 → Option (Gs)) : Prop :=
  ∀ {p : Program} {e : Env} {s : State} {m : MethodId} {args : Array Value} {below : List Frame} {meth : Method} {c : Code} {H : Heap} {locs : List Loc} {A : Nat → Prop} {ls : Array Slot} {gT : Gs} {gT_0 : Gs} {v3 : Int32} {v4 : UInt64} {q : Gs}, Cx p s m args meth c cX3_putReal none 10 RX3 lw_all → Hx D (tX3 yT ++ (tX6 yT_0)) A s H locs (wX3 hT aT yT gT ++ (wX6 (aT 0) aT_0 yT_0 gT_0)) → lv_has ls 10 [(0, .ref hT), (3, .int v3), (4, .double v4)] → fn gT gT_0 v3 v4 = some q → W p l e R_X3_putReal s m args below meth c H locs 0 0 (MQ below (QV D A (wX3 hT aT yT q ++ (wX6 (aT 0) aT_0 yT_0 gT_0))) args s 0 0 A) (F0 m 35 ls [])
def S_X3_putReal_12 (l : Launch) (D : Dx) (hT : Nat) (aT : Nat → Nat) (yT : Nat → ClassId) (aT_0 : Nat → Nat) (yT_0 : Nat → ClassId) (fn : Gs → Gs → UInt64 → Int32 → Option (Gs)) : Prop :=
  ∀ {p : Program} {e : Env} {s : State} {m : MethodId} {args : Array Value} {below : List Frame} {meth : Method} {c : Code} {H : Heap} {locs : List Loc} {A : Nat → Prop} {ls : Array Slot} {gT : Gs} {gT_0 : Gs} {v1 : UInt64} {v3 : Int32} {q : Gs}, Cx p s m args meth c cX3_putReal none 10 RX3 lw_all → Hx D (tX3 yT ++ (tX6 yT_0)) A s H locs (wX3 hT aT yT gT ++ (wX6 (aT 0) aT_0 yT_0 gT_0)) → lv_has ls 10 [(0, .ref hT), (1, .double v1), (3, .int v3)] → fn gT gT_0 v1 v3 = some q → W p l e R_X3_putReal s m args below meth c H locs 0 0 (MQ below (QV D A (wX3 hT aT yT q ++ (wX6 (aT 0) aT_0 yT_0 gT_0))) args s 0 0 A) (F0 m 12 ls [])
def SH_X3_putReal (l : Launch) (D : Dx) (hT : Nat) (aT : Nat → Nat) (yT : Nat → ClassId) (aT_0 : Nat → Nat) (yT_0 : Nat → ClassId) (rec : (Gs → Gs → Int32 → UInt64 → Int32 → Option (Gs))) : Prop := S_X3_putReal_50 l D hT aT yT aT_0 yT_0 rec
set_option maxHeartbeats 4000000 in
set_option maxRecDepth 100000 in
theorem k_X3_putReal_50 (l : Launch) (D : Dx) (hT : Nat) (aT : Nat → Nat) (yT : Nat → ClassId) (aT_0 : Nat → Nat) (yT_0 : Nat → ClassId) (n : Nat) (rec : (Gs → Gs → Int32 → UInt64 → Int32 → Option (Gs))) (IH : SH_X3_putReal l D hT aT yT aT_0 yT_0 rec) : S_X3_putReal_50 l D hT aT yT aT_0 yT_0 (h_X3_putReal_50 n rec) := by
  intro p e s m args below meth c H locs A ls gT gT_0 v3 v6 v8 q C X hl hF
  obtain ⟨hx, hb, hr, hml, hown, hts, hlk⟩ := id C
  unfold h_X3_putReal_50 at hF
  refine lv_iload hx hb dX3_putReal_50 (lv_at hl 3 rfl) ?_
  refine lv_iload_n hx hb dX3_putReal_52 rfl (lv_at hl 1 rfl) ?_
  refine lv_icmp_ge (tgt := 92) hx hb dX3_putReal_53 (by decide) (fun c => ?_) (fun c => ?_)
  · replace hF := iT c hF
    have hq := Option.some.inj hF
    subst hq
    exact rt_v C X dX3_putReal_92
  · replace hF := iF c hF
    refine lv_dload hx hb dX3_putReal_56 (lv_at hl 2 rfl) ?_
    refine lv_ldc2d hx hb hown (hts _ q6_61) dX3_putReal_58 ?_
    obtain ⟨h_7, hF⟩ := grd_some hF
    refine lv_dmul hx hb dX3_putReal_61 (n64_ok h_7) ?_
    refine lv_dstore (lv' := [(6, .double (FP.dmul v6 (4621819117588971520 : UInt64))), (0, .ref hT), (3, .int v3), (8, .int v8)]) hx hb dX3_putReal_62 hl (by decide) rfl (fun ls hl => ?_)
    refine lv_dload hx hb dX3_putReal_64 (lv_at hl 0 rfl) ?_
    refine lv_d2i hx hb dX3_putReal_66 ?_
    refine lv_istore (lv' := [(9, .int (FP.d2i (FP.dmul v6 (4621819117588971520 : UInt64)))), (6, .double (FP.dmul v6 (4621819117588971520 : UInt64))), (0, .ref hT), (3, .int v3), (8, .int v8)]) hx hb dX3_putReal_67 hl (by decide) rfl (fun ls hl => ?_)
    refine lv_aload_n hx hb dX3_putReal_69 rfl (lv_at hl 2 rfl) ?_
    refine lv_bipush (v := (48 : Int32)) hx hb dX3_putReal_70 (by decide) ?_
    refine lv_iload hx hb dX3_putReal_72 (lv_at hl 0 rfl) ?_
    refine lv_iadd hx hb dX3_putReal_74 ?_
    obtain ⟨q_8, hc_9, hF⟩ := bnd_some hF
    refine cV_v (As := [.int ((48 : Int32) + (FP.d2i (FP.dmul v6 (4621819117588971520 : UInt64))))]) (rest := []) C X (c_X3_put l D hT aT yT gT ((48 : Int32) + (FP.d2i (FP.dmul v6 (4621819117588971520 : UInt64)))) q_8 hc_9 _) (cwV 1 hts (good_V q6_50 q6_51 q6_52 q1_5 q6_53) rfl rfl rfl (by decide +kernel) ⟨Nat.le_of_ble_eq_true rfl, Nat.le_of_ble_eq_true rfl⟩) (va_recv X.1 X.2.1 (ci := 3) (q0 := 0) rfl rfl) (X.1.sub (tys' := tX3 yT) [0] rfl) (X.2.1.sub (ws' := wX3 hT aT yT gT) [0, 1] rfl) (X.2.2.1.sub (ws' := wX3 hT aT yT gT) [0, 1] (by decide) rfl) (free_of (wC := wX3 hT aT yT gT) (isC := [0, 1]) X rfl) hl.1 rfl rfl (Nat.le_of_ble_eq_true rfl) dX3_putReal_75 ⟨Nat.le_of_ble_eq_true rfl, Nat.le_of_ble_eq_true rfl⟩ (fun t H1 locs1 ht hB hk hS => ?_)
    have X : Hx D (tX3 yT ++ (tX6 yT_0)) A s H1 locs1 (wX3 hT aT yT q_8 ++ (wX6 (aT 0) aT_0 yT_0 gT_0)) := Hx_after (isC := [0, 1]) (isR := [2, 3]) (pm := [2, 3, 0, 1]) (wr := wX6 (aT 0) aT_0 yT_0 gT_0) X ⟨rfl, rfl, by decide, by decide, rfl, by decide⟩ ht hB hk hS
    clear hk hS ht hB
    generalize H1 = H at X ⊢
    generalize locs1 = locs at X ⊢
    refine lv_dload hx hb dX3_putReal_78 (lv_at hl 1 rfl) ?_
    refine lv_iload hx hb dX3_putReal_80 (lv_at hl 0 rfl) ?_
    refine lv_i2d hx hb dX3_putReal_82 ?_
    obtain ⟨h_10, hF⟩ := grd_some hF
    refine lv_dsub hx hb dX3_putReal_83 (n64_ok h_10) ?_
    refine lv_dstore (lv' := [(6, .double (FP.dsub (FP.dmul v6 (4621819117588971520 : UInt64)) (FP.i2d (FP.d2i (FP.dmul v6 (4621819117588971520 : UInt64)))))), (9, .int (FP.d2i (FP.dmul v6 (4621819117588971520 : UInt64)))), (0, .ref hT), (3, .int v3), (8, .int v8)]) hx hb dX3_putReal_84 hl (by decide) rfl (fun ls hl => ?_)
    refine lv_iinc (v := v8 + (1 : Int32)) (lv' := [(8, .int (v8 + (1 : Int32))), (6, .double (FP.dsub (FP.dmul v6 (4621819117588971520 : UInt64)) (FP.i2d (FP.d2i (FP.dmul v6 (4621819117588971520 : UInt64)))))), (9, .int (FP.d2i (FP.dmul v6 (4621819117588971520 : UInt64)))), (0, .ref hT), (3, .int v3)]) hx hb dX3_putReal_86 hl (k := 4) rfl rfl (by decide) rfl (fun ls hl => ?_)
    refine lv_goto (tgt := 50) hx hb dX3_putReal_89 (by decide) ?_
    exact IH C X (lv_sub hl [3, 4, 1, 0] rfl) hF
set_option maxHeartbeats 4000000 in
set_option maxRecDepth 100000 in
theorem k_X3_putReal_35 (l : Launch) (D : Dx) (hT : Nat) (aT : Nat → Nat) (yT : Nat → ClassId) (aT_0 : Nat → Nat) (yT_0 : Nat → ClassId) (n : Nat) (rec : (Gs → Gs → Int32 → UInt64 → Int32 → Option (Gs))) (IH : SH_X3_putReal l D hT aT yT aT_0 yT_0 rec) : S_X3_putReal_35 l D hT aT yT aT_0 yT_0 (b_X3_putReal_35 n rec) := by
  intro p e s m args below meth c H locs A ls gT gT_0 v3 v4 q C X hl hF
  obtain ⟨hx, hb, hr, hml, hown, hts, hlk⟩ := id C
  unfold b_X3_putReal_35 at hF
  refine lv_aload_n hx hb dX3_putReal_35 rfl (lv_at hl 0 rfl) ?_
  refine va_get (D := D.1) (ci := 3) (v := .ref (aT 0)) (C := RX3) (T := TX3) (N := 3) hx hb hts wi_X3 hown X.1 X.2.1 0 rfl rfl 0 (by decide) (hts _ q1_168) (fun _ h9 => h9) (fl_get (by decide)) dX3_putReal_36 ?_
  refine lv_dload hx hb dX3_putReal_39 (lv_at hl 2 rfl) ?_
  refine lv_dconst1 hx hb dX3_putReal_41 ?_
  obtain ⟨q_5, hc_6, hF⟩ := bnd_some hF
  refine cV_d (As := [.double v4, .double FP.dconst1]) (rest := []) C X (c_X6_remainder l D (aT 0) aT_0 yT_0 n gT_0 v4 FP.dconst1 q_5 hc_6 _) (cwV 2 hts (good_V q6_60 q5_103 q5_104 q1_2 q5_105) rfl rfl rfl (by decide +kernel) ⟨Nat.le_of_ble_eq_true rfl, Nat.le_of_ble_eq_true rfl⟩) (va_recv X.1 X.2.1 (ci := 6) (q0 := 2) rfl rfl) (X.1.sub (tys' := tX6 yT_0) [1] rfl) (X.2.1.sub (ws' := wX6 (aT 0) aT_0 yT_0 gT_0) [2, 3] rfl) (X.2.2.1.sub (ws' := wX6 (aT 0) aT_0 yT_0 gT_0) [2, 3] (by decide) rfl) (free_of (wC := wX6 (aT 0) aT_0 yT_0 gT_0) (isC := [2, 3]) X rfl) hl.1 rfl rfl (Nat.le_of_ble_eq_true rfl) dX3_putReal_42 ⟨Nat.le_of_ble_eq_true rfl, Nat.le_of_ble_eq_true rfl⟩ (fun t H1 locs1 ht hB hk hS => ?_)
  have X : Hx D (tX3 yT ++ (tX6 yT_0)) A s H1 locs1 (wX3 hT aT yT gT ++ (wX6 (aT 0) aT_0 yT_0 gT_0)) := Hx_after (isC := [2, 3]) (isR := [0, 1]) (pm := [0, 1, 2, 3]) (wr := wX3 hT aT yT gT) X ⟨rfl, rfl, by decide, by decide, rfl, by decide⟩ ht hB hk hS
  clear hk hS ht hB
  generalize H1 = H at X ⊢
  generalize locs1 = locs at X ⊢
  refine lv_dstore (lv' := [(6, .double q_5), (0, .ref hT), (3, .int v3), (4, .double v4)]) hx hb dX3_putReal_45 hl (by decide) rfl (fun ls hl => ?_)
  refine lv_iconst (v := (0 : Int32)) hx hb dX3_putReal_47 (by decide) ?_
  refine lv_istore (lv' := [(8, .int (0 : Int32)), (6, .double q_5), (0, .ref hT), (3, .int v3), (4, .double v4)]) hx hb dX3_putReal_48 hl (by decide) rfl (fun ls hl => ?_)
  exact IH C X (lv_sub hl [2, 3, 1, 0] rfl) hF
set_option maxHeartbeats 4000000 in
set_option maxRecDepth 100000 in
theorem k_X3_putReal_12 (l : Launch) (D : Dx) (hT : Nat) (aT : Nat → Nat) (yT : Nat → ClassId) (aT_0 : Nat → Nat) (yT_0 : Nat → ClassId) (n : Nat) (rec : (Gs → Gs → Int32 → UInt64 → Int32 → Option (Gs))) (IH : SH_X3_putReal l D hT aT yT aT_0 yT_0 rec) : S_X3_putReal_12 l D hT aT yT aT_0 yT_0 (b_X3_putReal_12 n rec) := by
  intro p e s m args below meth c H locs A ls gT gT_0 v1 v3 q C X hl hF
  obtain ⟨hx, hb, hr, hml, hown, hts, hlk⟩ := id C
  unfold b_X3_putReal_12 at hF
  refine lv_dload_n hx hb dX3_putReal_12 rfl (lv_at hl 1 rfl) ?_
  obtain ⟨q_1, hc_2, hF⟩ := bnd_some hF
  refine cS_d (As := [.double v1]) (rest := []) C X (c_X6_sizeOf l D  v1 q_1 hc_2 _) (va_cwS 1 hts (good_S q6_54 q5_71 q1_2 q5_72) rfl rfl rfl (by decide +kernel) ⟨Nat.le_of_ble_eq_true rfl, Nat.le_of_ble_eq_true rfl⟩) (eK X) eP (eD (A := A)) (eF X) hl.1 rfl rfl (Nat.le_of_ble_eq_true rfl) dX3_putReal_13 ⟨Nat.le_of_ble_eq_true rfl, Nat.le_of_ble_eq_true rfl⟩ (fun t H1 locs1 ht hB hk hS => ?_)
  have X := Hx_after_none X hk hS
  clear hk hS ht hB
  generalize H1 = H at X ⊢
  generalize locs1 = locs at X ⊢
  refine lv_dstore (lv' := [(4, .double q_1), (0, .ref hT), (1, .double v1), (3, .int v3)]) hx hb dX3_putReal_16 hl (by decide) rfl (fun ls hl => ?_)
  refine lv_aload_n hx hb dX3_putReal_18 rfl (lv_at hl 1 rfl) ?_
  refine lv_dload hx hb dX3_putReal_19 (lv_at hl 0 rfl) ?_
  refine lv_d2l hx hb dX3_putReal_21 ?_
  obtain ⟨q_3, hc_4, hF⟩ := bnd_some hF
  refine cV_v (As := [.long (FP.d2l q_1)]) (rest := []) C X (c_X3_putWhole l D hT aT yT n gT (FP.d2l q_1) q_3 hc_4 _) (cwV 1 hts (good_V q6_55 q6_57 q0_63 q1_5 q6_58) rfl rfl rfl (by decide +kernel) ⟨Nat.le_of_ble_eq_true rfl, Nat.le_of_ble_eq_true rfl⟩) (va_recv X.1 X.2.1 (ci := 3) (q0 := 0) rfl rfl) (X.1.sub (tys' := tX3 yT) [0] rfl) (X.2.1.sub (ws' := wX3 hT aT yT gT) [0, 1] rfl) (X.2.2.1.sub (ws' := wX3 hT aT yT gT) [0, 1] (by decide) rfl) (free_of (wC := wX3 hT aT yT gT) (isC := [0, 1]) X rfl) hl.1 rfl rfl (Nat.le_of_ble_eq_true rfl) dX3_putReal_22 ⟨Nat.le_of_ble_eq_true rfl, Nat.le_of_ble_eq_true rfl⟩ (fun t H1 locs1 ht hB hk hS => ?_)
  have X : Hx D (tX3 yT ++ (tX6 yT_0)) A s H1 locs1 (wX3 hT aT yT q_3 ++ (wX6 (aT 0) aT_0 yT_0 gT_0)) := Hx_after (isC := [0, 1]) (isR := [2, 3]) (pm := [2, 3, 0, 1]) (wr := wX6 (aT 0) aT_0 yT_0 gT_0) X ⟨rfl, rfl, by decide, by decide, rfl, by decide⟩ ht hB hk hS
  clear hk hS ht hB
  generalize H1 = H at X ⊢
  generalize locs1 = locs at X ⊢
  refine lv_iload_n hx hb dX3_putReal_25 rfl (lv_at hl 3 rfl) ?_
  refine lv_if_le (tgt := 35) hx hb dX3_putReal_26 (by decide) (fun c => ?_) (fun c => ?_)
  · replace hF := iT c hF
    exact (k_X3_putReal_35 l D hT aT yT aT_0 yT_0 n rec IH) C X (lv_sub hl [1, 3, 0] rfl) hF
  · replace hF := iF c hF
    refine lv_aload_n hx hb dX3_putReal_29 rfl (lv_at hl 1 rfl) ?_
    refine lv_bipush (v := (46 : Int32)) hx hb dX3_putReal_30 (by decide) ?_
    obtain ⟨q_11, hc_12, hF⟩ := bnd_some hF
    refine cV_v (As := [.int (46 : Int32)]) (rest := []) C X (c_X3_put l D hT aT yT q_3 (46 : Int32) q_11 hc_12 _) (cwV 1 hts (good_V q6_50 q6_51 q6_52 q1_5 q6_53) rfl rfl rfl (by decide +kernel) ⟨Nat.le_of_ble_eq_true rfl, Nat.le_of_ble_eq_true rfl⟩) (va_recv X.1 X.2.1 (ci := 3) (q0 := 0) rfl rfl) (X.1.sub (tys' := tX3 yT) [0] rfl) (X.2.1.sub (ws' := wX3 hT aT yT q_3) [0, 1] rfl) (X.2.2.1.sub (ws' := wX3 hT aT yT q_3) [0, 1] (by decide) rfl) (free_of (wC := wX3 hT aT yT q_3) (isC := [0, 1]) X rfl) hl.1 rfl rfl (Nat.le_of_ble_eq_true rfl) dX3_putReal_32 ⟨Nat.le_of_ble_eq_true rfl, Nat.le_of_ble_eq_true rfl⟩ (fun t H1 locs1 ht hB hk hS => ?_)
    have X : Hx D (tX3 yT ++ (tX6 yT_0)) A s H1 locs1 (wX3 hT aT yT q_11 ++ (wX6 (aT 0) aT_0 yT_0 gT_0)) := Hx_after (isC := [0, 1]) (isR := [2, 3]) (pm := [2, 3, 0, 1]) (wr := wX6 (aT 0) aT_0 yT_0 gT_0) X ⟨rfl, rfl, by decide, by decide, rfl, by decide⟩ ht hB hk hS
    clear hk hS ht hB
    generalize H1 = H at X ⊢
    generalize locs1 = locs at X ⊢
    exact (k_X3_putReal_35 l D hT aT yT aT_0 yT_0 n rec IH) C X (lv_sub hl [1, 3, 0] rfl) hF
theorem kL_X3_putReal (l : Launch) (D : Dx) (hT : Nat) (aT : Nat → Nat) (yT : Nat → ClassId) (aT_0 : Nat → Nat) (yT_0 : Nat → ClassId) (n : Nat) : ∀ k, SH_X3_putReal l D hT aT yT aT_0 yT_0 (L_X3_putReal n k)
  | 0 => fun _ _ _ h => by cases h
  | k + 1 => k_X3_putReal_50 l D hT aT yT aT_0 yT_0 n _ (kL_X3_putReal l D hT aT yT aT_0 yT_0 n k)
set_option maxHeartbeats 4000000 in
set_option maxRecDepth 100000 in
theorem c_X3_putReal (l : Launch) (D : Dx) (hT : Nat) (aT : Nat → Nat) (yT : Nat → ClassId) (aT_0 : Nat → Nat) (yT_0 : Nat → ClassId) (n : Nat) (gT : Gs) (gT_0 : Gs) (x0 : UInt64) (x1 : Int32) (q : Gs) (hF : f_X3_putReal n gT gT_0 x0 x1 = some q) (sz : Nat) : Met l yX3_putReal (ws_ yX3_putReal cX3_putReal 10 none) R_X3_putReal (PC D (tX3 yT ++ (tX6 yT_0)) [.ref hT, .double x0, .int x1] (wX3 hT aT yT gT ++ (wX6 (aT 0) aT_0 yT_0 gT_0)) sz) (QV D (va_A (wX3 hT aT yT gT ++ (wX6 (aT 0) aT_0 yT_0 gT_0)) sz) (wX3 hT aT yT q ++ (wX6 (aT 0) aT_0 yT_0 gT_0))) 0 0 (va_A (wX3 hT aT yT gT ++ (wX6 (aT 0) aT_0 yT_0 gT_0)) sz) := by
  refine Met.ofW (cc := cX3_putReal) (maxL := 10) (ret := none) (by decide) rfl ?_
  intro p e s m args below meth c s₁ B hml hv
  obtain ⟨rfl, hsz, hP, hK, hD, hN⟩ := hv
  subst hsz
  have C : Cx p s m _ meth c cX3_putReal none 10 RX3 lw_all := Cx_of B hml
  have X := Hx_start hP hK hD hN
  obtain ⟨hx, hb, hr, -, hown, hts, hlk⟩ := id C
  generalize va_A (wX3 hT aT yT gT ++ (wX6 (aT 0) aT_0 yT_0 gT_0)) s.heap.size = A at X ⊢
  have hl := lv_entry ([.ref hT, .double x0, .int x1]) (n := 10) (Nat.le_of_ble_eq_true rfl)
  rw [lg_entry_eq]
  generalize (lg_sl ([.ref hT, .double x0, .int x1]) ++ List.replicate (10 - (lg_sl ([.ref hT, .double x0, .int x1])).length) Slot.unset).toArray = ls at hl ⊢
  have hl : lv_has ls 10 [(0, .ref hT), (1, .double x0), (3, .int x1)] := hl
  unfold f_X3_putReal at hF
  refine lv_dload_n hx hb dX3_putReal_0 rfl (lv_at hl 1 rfl) ?_
  refine lv_dconst0 hx hb dX3_putReal_1 ?_
  refine lv_dcmp hx hb dX3_putReal_2 ?_
  refine lv_if_ge (tgt := 12) hx hb dX3_putReal_3 (by decide) (fun c => ?_) (fun c => ?_)
  · replace hF := iT c hF
    exact (k_X3_putReal_12 l D hT aT yT aT_0 yT_0 n (L_X3_putReal n n) (kL_X3_putReal l D hT aT yT aT_0 yT_0 n n)) C X (lv_sub hl [0, 1, 2] rfl) hF
  · replace hF := iF c hF
    refine lv_aload_n hx hb dX3_putReal_6 rfl (lv_at hl 0 rfl) ?_
    refine lv_bipush (v := (45 : Int32)) hx hb dX3_putReal_7 (by decide) ?_
    obtain ⟨q_13, hc_14, hF⟩ := bnd_some hF
    refine cV_v (As := [.int (45 : Int32)]) (rest := []) C X (c_X3_put l D hT aT yT gT (45 : Int32) q_13 hc_14 _) (cwV 1 hts (good_V q6_50 q6_51 q6_52 q1_5 q6_53) rfl rfl rfl (by decide +kernel) ⟨Nat.le_of_ble_eq_true rfl, Nat.le_of_ble_eq_true rfl⟩) (va_recv X.1 X.2.1 (ci := 3) (q0 := 0) rfl rfl) (X.1.sub (tys' := tX3 yT) [0] rfl) (X.2.1.sub (ws' := wX3 hT aT yT gT) [0, 1] rfl) (X.2.2.1.sub (ws' := wX3 hT aT yT gT) [0, 1] (by decide) rfl) (free_of (wC := wX3 hT aT yT gT) (isC := [0, 1]) X rfl) hl.1 rfl rfl (Nat.le_of_ble_eq_true rfl) dX3_putReal_9 ⟨Nat.le_of_ble_eq_true rfl, Nat.le_of_ble_eq_true rfl⟩ (fun t H1 locs1 ht hB hk hS => ?_)
    have X : Hx D (tX3 yT ++ (tX6 yT_0)) A s H1 locs1 (wX3 hT aT yT q_13 ++ (wX6 (aT 0) aT_0 yT_0 gT_0)) := Hx_after (isC := [0, 1]) (isR := [2, 3]) (pm := [2, 3, 0, 1]) (wr := wX6 (aT 0) aT_0 yT_0 gT_0) X ⟨rfl, rfl, by decide, by decide, rfl, by decide⟩ ht hB hk hS
    clear hk hS ht hB
    generalize H1 = H at X ⊢
    generalize locs1 = locs at X ⊢
    exact (k_X3_putReal_12 l D hT aT yT aT_0 yT_0 n (L_X3_putReal n n) (kL_X3_putReal l D hT aT yT aT_0 yT_0 n n)) C X (lv_sub hl [0, 1, 2] rfl) hF
