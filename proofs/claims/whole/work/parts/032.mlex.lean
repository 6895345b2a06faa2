theorem q6_200 : Cond.fieldLink RX12 20 "TurningHallModel" "length" "I" ∈ lw_all := lw_in (tc_6 (List.mem_of_getElem? (i := 200) rfl)) rfl
theorem q6_199 : Cond.fieldLink RX12 17 "TurningHallModel" "text" "[B" ∈ lw_all := lw_in (tc_6 (List.mem_of_getElem? (i := 199) rfl)) rfl
theorem q6_203 : Cond.fieldLink RX12 82 "TurningHallModel" "tKind" "[I" ∈ lw_all := lw_in (tc_6 (List.mem_of_getElem? (i := 203) rfl)) rfl
theorem q6_202 : Cond.fieldLink RX12 79 "TurningHallModel" "tokens" "I" ∈ lw_all := lw_in (tc_6 (List.mem_of_getElem? (i := 202) rfl)) rfl
theorem q6_204 : Cond.fieldLink RX12 86 "TurningHallModel" "tAt" "[I" ∈ lw_all := lw_in (tc_6 (List.mem_of_getElem? (i := 204) rfl)) rfl
theorem q6_205 : Cond.fieldLink RX12 89 "TurningHallModel" "tEnd" "[I" ∈ lw_all := lw_in (tc_6 (List.mem_of_getElem? (i := 205) rfl)) rfl
theorem q8_77 : Cond.methodLink RX12 505 yX12_at ∈ lw_all := lw_in (tc_8 (List.mem_of_getElem? (i := 77) rfl)) rfl
theorem q8_79 : Cond.instanceMethod yX12_at ∈ lw_all := lw_in (tc_8 (List.mem_of_getElem? (i := 79) rfl)) rfl
theorem q0_67 : Cond.selects RX12 yX12_at yX12_at ∈ lw_all := lw_in (tc_0 (List.mem_of_getElem? (i := 67) rfl)) rfl
theorem q8_80 : Cond.code yX12_at cX12_at 2 (some .int) ∈ lw_all := lw_in (tc_8 (List.mem_of_getElem? (i := 80) rfl)) rfl
theorem q8_85 : Cond.methodLink RX12 513 yX12_isLetter ∈ lw_all := lw_in (tc_8 (List.mem_of_getElem? (i := 85) rfl)) rfl
theorem q8_86 : Cond.static yX12_isLetter ∈ lw_all := lw_in (tc_8 (List.mem_of_getElem? (i := 86) rfl)) rfl
theorem q8_87 : Cond.code yX12_isLetter cX12_isLetter 1 (some .boolean) ∈ lw_all := lw_in (tc_8 (List.mem_of_getElem? (i := 87) rfl)) rfl
theorem q8_92 : Cond.methodLink RX12 520 yX12_isDigit ∈ lw_all := lw_in (tc_8 (List.mem_of_getElem? (i := 92) rfl)) rfl
theorem q8_93 : Cond.static yX12_isDigit ∈ lw_all := lw_in (tc_8 (List.mem_of_getElem? (i := 93) rfl)) rfl
theorem q8_94 : Cond.code yX12_isDigit cX12_isDigit 1 (some .boolean) ∈ lw_all := lw_in (tc_8 (List.mem_of_getElem? (i := 94) rfl)) rfl
theorem q8_81 : Cond.methodLink RX12 509 yX12_token ∈ lw_all := lw_in (tc_8 (List.mem_of_getElem? (i := 81) rfl)) rfl
theorem q8_83 : Cond.instanceMethod yX12_token ∈ lw_all := lw_in (tc_8 (List.mem_of_getElem? (i := 83) rfl)) rfl
theorem q0_68 : Cond.selects RX12 yX12_token yX12_token ∈ lw_all := lw_in (tc_0 (List.mem_of_getElem? (i := 68) rfl)) rfl
theorem q8_84 : Cond.code yX12_token cX12_token 4 none ∈ lw_all := lw_in (tc_8 (List.mem_of_getElem? (i := 84) rfl)) rfl
theorem q6_201 : Cond.fieldLink RX12 75 "TurningHallModel" "words" "[J" ∈ lw_all := lw_in (tc_6 (List.mem_of_getElem? (i := 201) rfl)) rfl
theorem q8_109 : Cond.constantDouble RX12 535 (4621819117588971520) ∈ lw_all := lw_in (tc_8 (List.mem_of_getElem? (i := 109) rfl)) rfl
theorem q8_100 : Cond.constantLong RX12 529 (10) ∈ lw_all := lw_in (tc_8 (List.mem_of_getElem? (i := 100) rfl)) rfl
theorem q6_206 : Cond.fieldLink RX12 92 "TurningHallModel" "tBits" "[J" ∈ lw_all := lw_in (tc_6 (List.mem_of_getElem? (i := 206) rfl)) rfl
theorem q6_207 : Cond.fieldLink RX12 95 "TurningHallModel" "tSort" "[I" ∈ lw_all := lw_in (tc_6 (List.mem_of_getElem? (i := 207) rfl)) rfl
theorem q8_105 : Cond.methodLink RX12 531 yX12_realOf ∈ lw_all := lw_in (tc_8 (List.mem_of_getElem? (i := 105) rfl)) rfl
theorem q8_107 : Cond.instanceMethod yX12_realOf ∈ lw_all := lw_in (tc_8 (List.mem_of_getElem? (i := 107) rfl)) rfl
theorem q0_71 : Cond.selects RX12 yX12_realOf yX12_realOf ∈ lw_all := lw_in (tc_0 (List.mem_of_getElem? (i := 71) rfl)) rfl
theorem q8_108 : Cond.code yX12_realOf cX12_realOf 10 (some .long) ∈ lw_all := lw_in (tc_8 (List.mem_of_getElem? (i := 108) rfl)) rfl
theorem q8_161 : Cond.methodLink RX12 526 yX12_sign ∈ lw_all := lw_in (tc_8 (List.mem_of_getElem? (i := 161) rfl)) rfl
theorem q8_163 : Cond.instanceMethod yX12_sign ∈ lw_all := lw_in (tc_8 (List.mem_of_getElem? (i := 163) rfl)) rfl
theorem q0_75 : Cond.selects RX12 yX12_sign yX12_sign ∈ lw_all := lw_in (tc_0 (List.mem_of_getElem? (i := 75) rfl)) rfl
theorem q8_164 : Cond.code yX12_sign cX12_sign 6 none ∈ lw_all := lw_in (tc_8 (List.mem_of_getElem? (i := 164) rfl)) rfl
theorem q8_95 : Cond.methodLink RX12 523 yX12_number ∈ lw_all := lw_in (tc_8 (List.mem_of_getElem? (i := 95) rfl)) rfl
theorem q8_97 : Cond.instanceMethod yX12_number ∈ lw_all := lw_in (tc_8 (List.mem_of_getElem? (i := 97) rfl)) rfl
theorem q0_70 : Cond.selects RX12 yX12_number yX12_number ∈ lw_all := lw_in (tc_0 (List.mem_of_getElem? (i := 70) rfl)) rfl
theorem q8_98 : Cond.code yX12_number cX12_number 16 none ∈ lw_all := lw_in (tc_8 (List.mem_of_getElem? (i := 98) rfl)) rfl
theorem q8_88 : Cond.methodLink RX12 516 yX12_word ∈ lw_all := lw_in (tc_8 (List.mem_of_getElem? (i := 88) rfl)) rfl
theorem q8_90 : Cond.instanceMethod yX12_word ∈ lw_all := lw_in (tc_8 (List.mem_of_getElem? (i := 90) rfl)) rfl
theorem q0_69 : Cond.selects RX12 yX12_word yX12_word ∈ lw_all := lw_in (tc_0 (List.mem_of_getElem? (i := 69) rfl)) rfl
theorem q8_91 : Cond.code yX12_word cX12_word 7 none ∈ lw_all := lw_in (tc_8 (List.mem_of_getElem? (i := 91) rfl)) rfl
/-! ### X12_at -/
theorem dX12_at_0 : decode cX12_at 0 = .ok (.iload_n 1, 1) := by decide +kernel
theorem dX12_at_1 : decode cX12_at 1 = .ok (.aload_n 0, 1) := by decide +kernel
theorem dX12_at_2 : decode cX12_at 2 = .ok (.getfield 20, 3) := by decide +kernel
theorem dX12_at_5 : decode cX12_at 5 = .ok (.if_icmp .ge 16, 3) := by decide +kernel
theorem dX12_at_8 : decode cX12_at 8 = .ok (.aload_n 0, 1) := by decide +kernel
theorem dX12_at_9 : decode cX12_at 9 = .ok (.getfield 17, 3) := by decide +kernel
theorem dX12_at_12 : decode cX12_at 12 = .ok (.iload_n 1, 1) := by decide +kernel
theorem dX12_at_13 : decode cX12_at 13 = .ok (.baload, 1) := by decide +kernel
theorem dX12_at_14 : decode cX12_at 14 = .ok (.sipush 255, 3) := by decide +kernel
theorem dX12_at_17 : decode cX12_at 17 = .ok (.iand, 1) := by decide +kernel
theorem dX12_at_18 : decode cX12_at 18 = .ok (.goto 4, 3) := by decide +kernel
theorem dX12_at_21 : decode cX12_at 21 = .ok (.iconst 0, 1) := by decide +kernel
theorem dX12_at_22 : decode cX12_at 22 = .ok (.ireturn, 1) := by decide +kernel
abbrev R_X12_at : Room := ({ frames := 0, cells := 0, slots := 0, locals := 0 } : Room)
def f_X12_at (gT : Gs) (x0 : Int32) : Option (Int32) :=
  if (gI gT 6) ≤ x0 then (some (0 : Int32)) else (grd (inB x0 3001) (some ((gIA gT 5 x0.toNatClampNeg) &&& (255 : Int32))))
set_option maxHeartbeats 4000000 in
set_option maxRecDepth 100000 in
theorem c_X12_at (l : Launch) (D : Dx) (hT : Nat) (aT : Nat → Nat) (yT : Nat → ClassId) (gT : Gs) (x0 : Int32) (q : Int32) (hF : f_X12_at gT x0 = some q) (sz : Nat) : Met l yX12_at (ws_ yX12_at cX12_at 2 (some .int)) R_X12_at (PC D (tX12 yT) [.ref hT, .int x0] (wX12 hT aT yT gT) sz) (QI D (va_A (wX12 hT aT yT gT) sz) (wX12 hT aT yT gT) q) 0 0 (va_A (wX12 hT aT yT gT) sz) := by
  refine Met.ofW (cc := cX12_at) (maxL := 2) (ret := (some .int)) (by decide) rfl ?_
  intro p e s m args below meth c s₁ B hml hv
  obtain ⟨rfl, hsz, hP, hK, hD, hN⟩ := hv
  subst hsz
  have C : Cx p s m _ meth c cX12_at (some .int) 2 RX12 lw_all := Cx_of B hml
  have X := Hx_start hP hK hD hN
  obtain ⟨hx, hb, hr, -, hown, hts, hlk⟩ := id C
  generalize va_A (wX12 hT aT yT gT) s.heap.size = A at X ⊢
  have hl := lv_entry ([.ref hT, .int x0]) (n := 2) (Nat.le_of_ble_eq_true rfl)
  rw [lg_entry_eq]
  generalize (lg_sl ([.ref hT, .int x0]) ++ List.replicate (2 - (lg_sl ([.ref hT, .int x0])).length) Slot.unset).toArray = ls at hl ⊢
  have hl : lv_has ls 2 [(0, .ref hT), (1, .int x0)] := hl
  unfold f_X12_at at hF
  refine lv_iload_n hx hb dX12_at_0 rfl (lv_at hl 1 rfl) ?_
  refine lv_aload_n hx hb dX12_at_1 rfl (lv_at hl 0 rfl) ?_
  refine va_get (D := D.1) (ci := 12) (v := .int (gI gT 6)) (C := RX12) (T := TX12) (N := 114) hx hb hts wi_X12 hown X.1 X.2.1 0 rfl rfl 6 (by decide) (hts _ q6_200) (fun _ h9 => h9) (fl_get (by decide)) dX12_at_2 ?_
  refine lv_icmp_ge (tgt := 21) hx hb dX12_at_5 (by decide) (fun c => ?_) (fun c => ?_)
  · replace hF := iT c hF
    refine lv_iconst (v := (0 : Int32)) hx hb dX12_at_21 (by decide) ?_
    have hq := Option.some.inj hF
    subst hq
    exact rt_i C X dX12_at_22
  · replace hF := iF c hF
    refine lv_aload_n hx hb dX12_at_8 rfl (lv_at hl 0 rfl) ?_
    refine va_get (D := D.1) (ci := 12) (v := .ref (aT 5)) (C := RX12) (T := TX12) (N := 114) hx hb hts wi_X12 hown X.1 X.2.1 0 rfl rfl 5 (by decide) (hts _ q6_199) (fun _ h9 => h9) (fl_get (by decide)) dX12_at_9 ?_
    refine lv_iload_n hx hb dX12_at_12 rfl (lv_at hl 1 rfl) ?_
    obtain ⟨h_1, hF⟩ := grd_some hF
    refine va_bald (D := D.1) (f := gIA gT 5) hx hb X.1 X.2.1 2 1 rfl rfl (inB_ok h_1) dX12_at_13 ?_
    refine lv_sipush (v := (255 : Int32)) hx hb dX12_at_14 (by decide) ?_
    refine lv_iand hx hb dX12_at_17 ?_
    refine lv_goto (tgt := 22) hx hb dX12_at_18 (by decide) ?_
    have hq := Option.some.inj hF
    subst hq
    exact rt_i C X dX12_at_22

/-! ### X12_token -/
theorem dX12_token_0 : decode cX12_token 0 = .ok (.aload_n 0, 1) := by decide +kernel
theorem dX12_token_1 : decode cX12_token 1 = .ok (.getfield 82, 3) := by decide +kernel
theorem dX12_token_4 : decode cX12_token 4 = .ok (.aload_n 0, 1) := by decide +kernel
theorem dX12_token_5 : decode cX12_token 5 = .ok (.getfield 79, 3) := by decide +kernel
theorem dX12_token_8 : decode cX12_token 8 = .ok (.iload_n 1, 1) := by decide +kernel
theorem dX12_token_9 : decode cX12_token 9 = .ok (.iastore, 1) := by decide +kernel
theorem dX12_token_10 : decode cX12_token 10 = .ok (.aload_n 0, 1) := by decide +kernel
theorem dX12_token_11 : decode cX12_token 11 = .ok (.getfield 86, 3) := by decide +kernel
theorem dX12_token_14 : decode cX12_token 14 = .ok (.aload_n 0, 1) := by decide +kernel
theorem dX12_token_15 : decode cX12_token 15 = .ok (.getfield 79, 3) := by decide +kernel
theorem dX12_token_18 : decode cX12_token 18 = .ok (.iload_n 2, 1) := by decide +kernel
theorem dX12_token_19 : decode cX12_token 19 = .ok (.iastore, 1) := by decide +kernel
theorem dX12_token_20 : decode cX12_token 20 = .ok (.aload_n 0, 1) := by decide +kernel
theorem dX12_token_21 : decode cX12_token 21 = .ok (.getfield 89, 3) := by decide +kernel
theorem dX12_token_24 : decode cX12_token 24 = .ok (.aload_n 0, 1) := by decide +kernel
theorem dX12_token_25 : decode cX12_token 25 = .ok (.getfield 79, 3) := by decide +kernel
theorem dX12_token_28 : decode cX12_token 28 = .ok (.iload_n 3, 1) := by decide +kernel
theorem dX12_token_29 : decode cX12_token 29 = .ok (.iastore, 1) := by decide +kernel
theorem dX12_token_30 : decode cX12_token 30 = .ok (.aload_n 0, 1) := by decide +kernel
theorem dX12_token_31 : decode cX12_token 31 = .ok (.dup, 1) := by decide +kernel
theorem dX12_token_32 : decode cX12_token 32 = .ok (.getfield 79, 3) := by decide +kernel
theorem dX12_token_35 : decode cX12_token 35 = .ok (.iconst 1, 1) := by decide +kernel
theorem dX12_token_36 : decode cX12_token 36 = .ok (.iadd, 1) := by decide +kernel
theorem dX12_token_37 : decode cX12_token 37 = .ok (.putfield 79, 3) := by decide +kernel
theorem dX12_token_40 : decode cX12_token 40 = .ok (.return_, 1) := by decide +kernel
abbrev R_X12_token : Room := ({ frames := 0, cells := 0, slots := 0, locals := 0 } : Room)
def f_X12_token (gT : Gs) (x0 : Int32) (x1 : Int32) (x2 : Int32) : Option (Gs) :=
  grd (inB (gI gT 8) 3001) (grd (inB (gI gT 8) 3001) (grd (inB (gI gT 8) 3001) (some (sI (sIA (sIA (sIA gT 9 (upd (gIA gT 9) (gI gT 8).toNatClampNeg x0)) 10 (upd (gIA gT 10) (gI gT 8).toNatClampNeg x1)) 11 (upd (gIA gT 11) (gI gT 8).toNatClampNeg x2)) 8 ((gI gT 8) + (1 : Int32))))))
set_option maxHeartbeats 4000000 in
set_option maxRecDepth 100000 in
theorem c_X12_token (l : Launch) (D : Dx) (hT : Nat) (aT : Nat → Nat) (yT : Nat → ClassId) (gT : Gs) (x0 : Int32) (x1 : Int32) (x2 : Int32) (q : Gs) (hF : f_X12_token gT x0 x1 x2 = some q) (sz : Nat) : Met l yX12_token (ws_ yX12_token cX12_token 4 none) R_X12_token (PC D (tX12 yT) [.ref hT, .int x0, .int x1, .int x2] (wX12 hT aT yT gT) sz) (QV D (va_A (wX12 hT aT yT gT) sz) (wX12 hT aT yT q)) 0 0 (va_A (wX12 hT aT yT gT) sz) := by
  refine Met.ofW (cc := cX12_token) (maxL := 4) (ret := none) (by decide) rfl ?_
  intro p e s m args below meth c s₁ B hml hv
  obtain ⟨rfl, hsz, hP, hK, hD, hN⟩ := hv
  subst hsz
  have C : Cx p s m _ meth c cX12_token none 4 RX12 lw_all := Cx_of B hml
  have X := Hx_start hP hK hD hN
  obtain ⟨hx, hb, hr, -, hown, hts, hlk⟩ := id C
  generalize va_A (wX12 hT aT yT gT) s.heap.size = A at X ⊢
  have hl := lv_entry ([.ref hT, .int x0, .int x1, .int x2]) (n := 4) (Nat.le_of_ble_eq_true rfl)
  rw [lg_entry_eq]
  generalize (lg_sl ([.ref hT, .int x0, .int x1, .int x2]) ++ List.replicate (4 - (lg_sl ([.ref hT, .int x0, .int x1, .int x2])).length) Slot.unset).toArray = ls at hl ⊢
  have hl : lv_has ls 4 [(0, .ref hT), (1, .int x0), (2, .int x1), (3, .int x2)] := hl
  unfold f_X12_token at hF
  refine lv_aload_n hx hb dX12_token_0 rfl (lv_at hl 0 rfl) ?_
  refine va_get (D := D.1) (ci := 12) (v := .ref (aT 9)) (C := RX12) (T := TX12) (N := 114) hx hb hts wi_X12 hown X.1 X.2.1 0 rfl rfl 9 (by decide) (hts _ q6_203) (fun _ h9 => h9) (fl_get (by decide)) dX12_token_1 ?_
  refine lv_aload_n hx hb dX12_token_4 rfl (lv_at hl 0 rfl) ?_
  refine va_get (D := D.1) (ci := 12) (v := .int (gI gT 8)) (C := RX12) (T := TX12) (N := 114) hx hb hts wi_X12 hown X.1 X.2.1 0 rfl rfl 8 (by decide) (hts _ q6_202) (fun _ h9 => h9) (fl_get (by decide)) dX12_token_5 ?_
  refine lv_iload_n hx hb dX12_token_8 rfl (lv_at hl 1 rfl) ?_
  obtain ⟨h_1, hF⟩ := grd_some hF
  refine va_iast (D := D.1) (f := gIA gT 9) hx hb X.1 X.2.1 X.2.2.1 X.2.2.2.1 4 3 rfl rfl (inB_ok h_1) dX12_token_9 (fun H locs hP hD hS => ?_)
  have X : Hx D (tX12 yT) A s H locs (wX12 hT aT yT (sIA gT 9 (upd (gIA gT 9) (gI gT 8).toNatClampNeg x0))) := Hx_set X (wG_sIA (i := 3) (k := 9) ndX12 rfl rfl) hP hD hS
  refine lv_aload_n hx hb dX12_token_10 rfl (lv_at hl 0 rfl) ?_
  refine va_get (D := D.1) (ci := 12) (v := .ref (aT 10)) (C := RX12) (T := TX12) (N := 114) hx hb hts wi_X12 hown X.1 X.2.1 0 rfl rfl 10 (by decide) (hts _ q6_204) (fun _ h9 => h9) (fl_get (by decide)) dX12_token_11 ?_
  refine lv_aload_n hx hb dX12_token_14 rfl (lv_at hl 0 rfl) ?_
  refine va_get (D := D.1) (ci := 12) (v := .int (gI gT 8)) (C := RX12) (T := TX12) (N := 114) hx hb hts wi_X12 hown X.1 X.2.1 0 rfl rfl 8 (by decide) (hts _ q6_202) (fun _ h9 => h9) (fl_get (by decide)) dX12_token_15 ?_
  refine lv_iload_n hx hb dX12_token_18 rfl (lv_at hl 2 rfl) ?_
  obtain ⟨h_2, hF⟩ := grd_some hF
  refine va_iast (D := D.1) (f := gIA gT 10) hx hb X.1 X.2.1 X.2.2.1 X.2.2.2.1 5 4 rfl rfl (inB_ok h_2) dX12_token_19 (fun H locs hP hD hS => ?_)
  have X : Hx D (tX12 yT) A s H locs (wX12 hT aT yT (sIA (sIA gT 9 (upd (gIA gT 9) (gI gT 8).toNatClampNeg x0)) 10 (upd (gIA gT 10) (gI gT 8).toNatClampNeg x1))) := Hx_set X (wG_sIA (i := 4) (k := 10) ndX12 rfl rfl) hP hD hS
  refine lv_aload_n hx hb dX12_token_20 rfl (lv_at hl 0 rfl) ?_
  refine va_get (D := D.1) (ci := 12) (v := .ref (aT 11)) (C := RX12) (T := TX12) (N := 114) hx hb hts wi_X12 hown X.1 X.2.1 0 rfl rfl 11 (by decide) (hts _ q6_205) (fun _ h9 => h9) (fl_get (by decide)) dX12_token_21 ?_
  refine lv_aload_n hx hb dX12_token_24 rfl (lv_at hl 0 rfl) ?_
  refine va_get (D := D.1) (ci := 12) (v := .int (gI gT 8)) (C := RX12) (T := TX12) (N := 114) hx hb hts wi_X12 hown X.1 X.2.1 0 rfl rfl 8 (by decide) (hts _ q6_202) (fun _ h9 => h9) (fl_get (by decide)) dX12_token_25 ?_
  refine lv_iload_n hx hb dX12_token_28 rfl (lv_at hl 3 rfl) ?_
  obtain ⟨h_3, hF⟩ := grd_some hF
  refine va_iast (D := D.1) (f := gIA gT 11) hx hb X.1 X.2.1 X.2.2.1 X.2.2.2.1 6 5 rfl rfl (inB_ok h_3) dX12_token_29 (fun H locs hP hD hS => ?_)
  have X : Hx D (tX12 yT) A s H locs (wX12 hT aT yT (sIA (sIA (sIA gT 9 (upd (gIA gT 9) (gI gT 8).toNatClampNeg x0)) 10 (upd (gIA gT 10) (gI gT 8).toNatClampNeg x1)) 11 (upd (gIA gT 11) (gI gT 8).toNatClampNeg x2))) := Hx_set X (wG_sIA (i := 5) (k := 11) ndX12 rfl rfl) hP hD hS
  refine lv_aload_n hx hb dX12_token_30 rfl (lv_at hl 0 rfl) ?_
  refine lv_dup hx hb dX12_token_31 rfl ?_
  refine va_get (D := D.1) (ci := 12) (v := .int (gI gT 8)) (C := RX12) (T := TX12) (N := 114) hx hb hts wi_X12 hown X.1 X.2.1 0 rfl rfl 8 (by decide) (hts _ q6_202) (fun _ h9 => h9) (fl_get (by decide)) dX12_token_32 ?_
  refine lv_iconst (v := (1 : Int32)) hx hb dX12_token_35 (by decide) ?_
  refine lv_iadd hx hb dX12_token_36 ?_
  refine va_put (D := D.1) (ci := 12) (v := .int ((gI gT 8) + (1 : Int32))) (ty := .int) (C := RX12) (T := TX12) (N := 114) hx hb hts wi_X12 tyX12 tyX12_ok nmX12 hown X.1 X.2.1 X.2.2.1 X.2.2.2.1 0 rfl rfl 8 (by decide) (hts _ q6_202) (fun _ h9 => h9) rfl (by decide +kernel) rfl rfl (by rw [List.length_map, List.length_range]; decide) dX12_token_37 (fun H locs hP hD hS => ?_)
  have X : Hx D (tX12 yT) A s H locs (wX12 hT aT yT (sI (sIA (sIA (sIA gT 9 (upd (gIA gT 9) (gI gT 8).toNatClampNeg x0)) 10 (upd (gIA gT 10) (gI gT 8).toNatClampNeg x1)) 11 (upd (gIA gT 11) (gI gT 8).toNatClampNeg x2)) 8 ((gI gT 8) + (1 : Int32)))) := Hx_set X (wG_sI (k := 8) rfl) hP hD hS
  have hq := Option.some.inj hF
  subst hq
  exact rt_v C X dX12_token_40

/-! ### X12_word -/
theorem dX12_word_0 : decode cX12_word 0 = .ok (.iload_n 1, 1) := by decide +kernel
theorem dX12_word_1 : decode cX12_word 1 = .ok (.istore_n 2, 1) := by decide +kernel
theorem dX12_word_2 : decode cX12_word 2 = .ok (.lconst 0, 1) := by decide +kernel
theorem dX12_word_3 : decode cX12_word 3 = .ok (.lstore_n 3, 1) := by decide +kernel
theorem dX12_word_4 : decode cX12_word 4 = .ok (.aload_n 0, 1) := by decide +kernel
theorem dX12_word_5 : decode cX12_word 5 = .ok (.iload_n 2, 1) := by decide +kernel
theorem dX12_word_6 : decode cX12_word 6 = .ok (.invokevirtual 505, 3) := by decide +kernel
theorem dX12_word_9 : decode cX12_word 9 = .ok (.invokestatic 513, 3) := by decide +kernel
theorem dX12_word_12 : decode cX12_word 12 = .ok (.ifCond .ne 14, 3) := by decide +kernel
theorem dX12_word_15 : decode cX12_word 15 = .ok (.aload_n 0, 1) := by decide +kernel
theorem dX12_word_16 : decode cX12_word 16 = .ok (.iload_n 2, 1) := by decide +kernel
theorem dX12_word_17 : decode cX12_word 17 = .ok (.invokevirtual 505, 3) := by decide +kernel
theorem dX12_word_20 : decode cX12_word 20 = .ok (.invokestatic 520, 3) := by decide +kernel
theorem dX12_word_23 : decode cX12_word 23 = .ok (.ifCond .eq 29, 3) := by decide +kernel
theorem dX12_word_26 : decode cX12_word 26 = .ok (.iload_n 2, 1) := by decide +kernel
theorem dX12_word_27 : decode cX12_word 27 = .ok (.iload_n 1, 1) := by decide +kernel
theorem dX12_word_28 : decode cX12_word 28 = .ok (.bipush 8, 2) := by decide +kernel
theorem dX12_word_30 : decode cX12_word 30 = .ok (.iadd, 1) := by decide +kernel
theorem dX12_word_31 : decode cX12_word 31 = .ok (.if_icmp .ge 15, 3) := by decide +kernel
theorem dX12_word_34 : decode cX12_word 34 = .ok (.lload_n 3, 1) := by decide +kernel
theorem dX12_word_35 : decode cX12_word 35 = .ok (.bipush 8, 2) := by decide +kernel
theorem dX12_word_37 : decode cX12_word 37 = .ok (.lshl, 1) := by decide +kernel
theorem dX12_word_38 : decode cX12_word 38 = .ok (.aload_n 0, 1) := by decide +kernel
theorem dX12_word_39 : decode cX12_word 39 = .ok (.iload_n 2, 1) := by decide +kernel
theorem dX12_word_40 : decode cX12_word 40 = .ok (.invokevirtual 505, 3) := by decide +kernel
theorem dX12_word_43 : decode cX12_word 43 = .ok (.i2l, 1) := by decide +kernel
theorem dX12_word_44 : decode cX12_word 44 = .ok (.lor, 1) := by decide +kernel
theorem dX12_word_45 : decode cX12_word 45 = .ok (.lstore_n 3, 1) := by decide +kernel
theorem dX12_word_46 : decode cX12_word 46 = .ok (.iinc 2 1, 3) := by decide +kernel
theorem dX12_word_49 : decode cX12_word 49 = .ok (.goto (-45), 3) := by decide +kernel
theorem dX12_word_52 : decode cX12_word 52 = .ok (.iconst 2, 1) := by decide +kernel
theorem dX12_word_53 : decode cX12_word 53 = .ok (.istore 5, 2) := by decide +kernel
theorem dX12_word_55 : decode cX12_word 55 = .ok (.iconst 0, 1) := by decide +kernel
theorem dX12_word_56 : decode cX12_word 56 = .ok (.istore 6, 2) := by decide +kernel
theorem dX12_word_58 : decode cX12_word 58 = .ok (.iload 6, 2) := by decide +kernel
theorem dX12_word_60 : decode cX12_word 60 = .ok (.bipush 26, 2) := by decide +kernel
theorem dX12_word_62 : decode cX12_word 62 = .ok (.if_icmp .ge 37, 3) := by decide +kernel
theorem dX12_word_65 : decode cX12_word 65 = .ok (.iload_n 2, 1) := by decide +kernel
theorem dX12_word_66 : decode cX12_word 66 = .ok (.iload_n 1, 1) := by decide +kernel
theorem dX12_word_67 : decode cX12_word 67 = .ok (.isub, 1) := by decide +kernel
theorem dX12_word_68 : decode cX12_word 68 = .ok (.bipush 6, 2) := by decide +kernel
theorem dX12_word_70 : decode cX12_word 70 = .ok (.if_icmp .gt 29, 3) := by decide +kernel
theorem dX12_word_73 : decode cX12_word 73 = .ok (.aload_n 0, 1) := by decide +kernel
theorem dX12_word_74 : decode cX12_word 74 = .ok (.getfield 75, 3) := by decide +kernel
theorem dX12_word_77 : decode cX12_word 77 = .ok (.iload 6, 2) := by decide +kernel
theorem dX12_word_79 : decode cX12_word 79 = .ok (.laload, 1) := by decide +kernel
theorem dX12_word_80 : decode cX12_word 80 = .ok (.lload_n 3, 1) := by decide +kernel
theorem dX12_word_81 : decode cX12_word 81 = .ok (.lcmp, 1) := by decide +kernel
theorem dX12_word_82 : decode cX12_word 82 = .ok (.ifCond .ne 11, 3) := by decide +kernel
theorem dX12_word_85 : decode cX12_word 85 = .ok (.sipush 200, 3) := by decide +kernel
theorem dX12_word_88 : decode cX12_word 88 = .ok (.iload 6, 2) := by decide +kernel
theorem dX12_word_90 : decode cX12_word 90 = .ok (.iadd, 1) := by decide +kernel
theorem dX12_word_91 : decode cX12_word 91 = .ok (.istore 5, 2) := by decide +kernel
theorem dX12_word_93 : decode cX12_word 93 = .ok (.iinc 6 1, 3) := by decide +kernel
theorem dX12_word_96 : decode cX12_word 96 = .ok (.goto (-38), 3) := by decide +kernel
theorem dX12_word_99 : decode cX12_word 99 = .ok (.iload_n 2, 1) := by decide +kernel
theorem dX12_word_100 : decode cX12_word 100 = .ok (.iload_n 1, 1) := by decide +kernel
theorem dX12_word_101 : decode cX12_word 101 = .ok (.isub, 1) := by decide +kernel
theorem dX12_word_102 : decode cX12_word 102 = .ok (.bipush 10, 2) := by decide +kernel
theorem dX12_word_104 : decode cX12_word 104 = .ok (.if_icmp .le 16, 3) := by decide +kernel
theorem dX12_word_107 : decode cX12_word 107 = .ok (.aload_n 0, 1) := by decide +kernel
theorem dX12_word_108 : decode cX12_word 108 = .ok (.iconst 1, 1) := by decide +kernel
theorem dX12_word_109 : decode cX12_word 109 = .ok (.iload_n 1, 1) := by decide +kernel
theorem dX12_word_110 : decode cX12_word 110 = .ok (.bipush 10, 2) := by decide +kernel
theorem dX12_word_112 : decode cX12_word 112 = .ok (.iadd, 1) := by decide +kernel
theorem dX12_word_113 : decode cX12_word 113 = .ok (.iload_n 2, 1) := by decide +kernel
theorem dX12_word_114 : decode cX12_word 114 = .ok (.invokevirtual 509, 3) := by decide +kernel
theorem dX12_word_117 : decode cX12_word 117 = .ok (.goto 11, 3) := by decide +kernel
theorem dX12_word_120 : decode cX12_word 120 = .ok (.aload_n 0, 1) := by decide +kernel
theorem dX12_word_121 : decode cX12_word 121 = .ok (.iload 5, 2) := by decide +kernel
theorem dX12_word_123 : decode cX12_word 123 = .ok (.iload_n 1, 1) := by decide +kernel
theorem dX12_word_124 : decode cX12_word 124 = .ok (.iload_n 2, 1) := by decide +kernel
theorem dX12_word_125 : decode cX12_word 125 = .ok (.invokevirtual 509, 3) := by decide +kernel
theorem dX12_word_128 : decode cX12_word 128 = .ok (.return_, 1) := by decide +kernel
abbrev R_X12_word : Room := ({ frames := 1, cells := 0, slots := 0, locals := 23 } : Room)
def b_X12_word_46 (n : Nat) (rec : (Gs → Int32 → Int32 → Int64 → Option (Gs)) × (Gs → Int32 → Int32 → Int64 → Int32 → Int32 → Option (Gs))) (gT : Gs) (v1 : Int32) (v2 : Int32) (v3 : Int64) : Option (Gs) :=
  rec.1 gT v1 (v2 + (1 : Int32)) v3
def b_X12_word_26 (n : Nat) (rec : (Gs → Int32 → Int32 → Int64 → Option (Gs)) × (Gs → Int32 → Int32 → Int64 → Int32 → Int32 → Option (Gs))) (gT : Gs) (v1 : Int32) (v2 : Int32) (v3 : Int64) : Option (Gs) :=
  if (v1 + (8 : Int32)) ≤ v2 then (b_X12_word_46 n rec gT v1 v2 v3) else (bnd (f_X12_at gT v2) (fun q_5 => b_X12_word_46 n rec gT v1 v2 ((v3 <<< ((8 : Int32).toInt64 &&& 63)) ||| q_5.toInt64)))
def b_X12_word_99 (n : Nat) (rec : (Gs → Int32 → Int32 → Int64 → Option (Gs)) × (Gs → Int32 → Int32 → Int64 → Int32 → Int32 → Option (Gs))) (gT : Gs) (v1 : Int32) (v2 : Int32) (v5 : Int32) : Option (Gs) :=
  if (v2 - v1) ≤ (10 : Int32) then (bnd (f_X12_token gT v5 v1 v2) (fun q_11 => some q_11)) else (bnd (f_X12_token gT (1 : Int32) (v1 + (10 : Int32)) v2) (fun q_13 => some q_13))
def b_X12_word_93 (n : Nat) (rec : (Gs → Int32 → Int32 → Int64 → Option (Gs)) × (Gs → Int32 → Int32 → Int64 → Int32 → Int32 → Option (Gs))) (gT : Gs) (v1 : Int32) (v2 : Int32) (v3 : Int64) (v5 : Int32) (v6 : Int32) : Option (Gs) :=
  rec.2 gT v1 v2 v3 v5 (v6 + (1 : Int32))
def h_X12_word_58 (n : Nat) (rec : (Gs → Int32 → Int32 → Int64 → Option (Gs)) × (Gs → Int32 → Int32 → Int64 → Int32 → Int32 → Option (Gs))) (gT : Gs) (v1 : Int32) (v2 : Int32) (v3 : Int64) (v5 : Int32) (v6 : Int32) : Option (Gs) :=
  if (26 : Int32) ≤ v6 then (b_X12_word_99 n rec gT v1 v2 v5) else (if (6 : Int32) < (v2 - v1) then (b_X12_word_99 n rec gT v1 v2 v5) else (grd (inB v6 26) (if (gLA gT 7 v6.toNatClampNeg) = v3 then (b_X12_word_93 n rec gT v1 v2 v3 ((200 : Int32) + v6) v6) else (b_X12_word_93 n rec gT v1 v2 v3 v5 v6))))
def h_X12_word_4 (n : Nat) (rec : (Gs → Int32 → Int32 → Int64 → Option (Gs)) × (Gs → Int32 → Int32 → Int64 → Int32 → Int32 → Option (Gs))) (gT : Gs) (v1 : Int32) (v2 : Int32) (v3 : Int64) : Option (Gs) :=
  bnd (f_X12_at gT v2) (fun q_1 => bnd (f_X12_isLetter q_1) (fun q_3 => if q_3 = 0 then (bnd (f_X12_at gT v2) (fun q_7 => bnd (f_X12_isDigit q_7) (fun q_9 => if q_9 = 0 then (rec.2 gT v1 v2 v3 (2 : Int32) (0 : Int32)) else (b_X12_word_26 n rec gT v1 v2 v3)))) else (b_X12_word_26 n rec gT v1 v2 v3)))
def L_X12_word (n : Nat) : Nat → ((Gs → Int32 → Int32 → Int64 → Option (Gs)) × (Gs → Int32 → Int32 → Int64 → Int32 → Int32 → Option (Gs)))
  | 0 => ((fun _ _ _ _ => none), (fun _ _ _ _ _ _ => none))
  | k + 1 => (h_X12_word_4 n (L_X12_word n k), h_X12_word_58 n (L_X12_word n k))
def f_X12_word (n : Nat) (gT : Gs) (x0 : Int32) : Option (Gs) :=
  (L_X12_word n n).1 gT x0 x0 (0 : Int64)
def S_X12_word_46 (l : Launch) (D : Dx) (hT : Nat) (aT : Nat → Nat) (yT : Nat → ClassId) (fn : Gs → Int32 → Int32 → Int64 → Option (Gs)) : Prop :=
  ∀ {p : Program} {e : Env} {s : State} {m : MethodId} {args : Array Value} {below : List Frame} {meth : Method} {c : Code} {H : Heap} {locs : List Loc} {A : Nat → Prop} {ls : Array Slot} {gT : Gs} {v1 : Int32} {v2 : Int32} {v3 : Int64} {q : Gs}, Cx p s m args meth c cX12_word none 7 RX12 lw_all → Hx D (tX12 yT) A s H locs (wX12 hT aT yT gT) → lv_has ls 7 [(0, .ref hT), (1, .int v1), (2, .int v2), (3, .long v3)] → fn gT v1 v2 v3 = some q → W p l e R_X12_word s m args below meth c H locs 0 0 (MQ below (QV D A (wX12 hT aT yT q)) args s 0 0 A) (F0 m 46 ls [])
def S_X12_word_26 (l : Launch) (D : Dx) (hT : Nat) (aT : Nat → Nat) (yT : Nat → ClassId) (fn : Gs → Int32 → Int32 → Int64 → Option (Gs)) : Prop :=
  ∀ {p : Program} {e : Env} {s : State} {m : MethodId} {args : Array Value} {below : List Frame} {meth : Method} {c : Code} {H : Heap} {locs : List Loc} {A : Nat → Prop} {ls : Array Slot} {gT : Gs} {v1 : Int32} {v2 : Int32} {v3 : Int64} {q : Gs}, Cx p s m args meth c cX12_word none 7 RX12 lw_all → Hx D (tX12 yT) A s H locs (wX12 hT aT yT gT) → lv_has ls 7 [(0, .ref hT), (1, .int v1), (2, .int v2), (3, .long v3)] → fn gT v1 v2 v3 = some q → W p l e R_X12_word s m args below meth c H locs 0 0 (MQ below (QV D A (wX12 hT aT yT q)) args s 0 0 A) (F0 m 26 ls [])
def S_X12_word_99 (l : Launch) (D : Dx) (hT : Nat) (aT : Nat → Nat) (yT : Nat → ClassId) (fn : Gs → Int32 → Int32 → Int32 → Option (Gs)) : Prop :=
  ∀ {p : Program} {e : Env} {s : State} {m : MethodId} {args : Array Value} {below : List Frame} {meth : Method} {c : Code} {H : Heap} {locs : List Loc} {A : Nat → Prop} {ls : Array Slot} {gT : Gs} {v1 : Int32} {v2 : Int32} {v5 : Int32} {q : Gs}, Cx p s m args meth c cX12_word none 7 RX12 lw_all → Hx D (tX12 yT) A s H locs (wX12 hT aT yT gT) → lv_has ls 7 [(0, .ref hT), (1, .int v1), (2, .int v2), (5, .int v5)] → fn gT v1 v2 v5 = some q → W p l e R_X12_word s m args below meth c H locs 0 0 (MQ below (QV D A (wX12 hT aT yT q)) args s 0 0 A) (F0 m 99 ls [])
def S_X12_word_93 (l : Launch) (D : Dx) (hT : Nat) (aT : Nat → Nat) (yT : Nat → ClassId) (fn : Gs → Int32 → Int32 → Int64 → Int32 → Int32 → Option (Gs)) : Prop :=
  ∀ {p : Program} {e : Env} {s : State} {m : MethodId} {args : Array Value} {below : List Frame} {meth : Method} {c : Code} {H : Heap} {locs : List Loc} {A : Nat → Prop} {ls : Array Slot} {gT : Gs} {v1 : Int32} {v2 : Int32} {v3 : Int64} {v5 : Int32} {v6 : Int32} {q : Gs}, Cx p s m args meth c cX12_word none 7 RX12 lw_all → Hx D (tX12 yT) A s H locs (wX12 hT aT yT gT) → lv_has ls 7 [(0, .ref hT), (1, .int v1), (2, .int v2), (3, .long v3), (5, .int v5), (6, .int v6)] → fn gT v1 v2 v3 v5 v6 = some q → W p l e R_X12_word s m args below meth c H locs 0 0 (MQ below (QV D A (wX12 hT aT yT q)) args s 0 0 A) (F0 m 93 ls [])
def S_X12_word_58 (l : Launch) (D : Dx) (hT : Nat) (aT : Nat → Nat) (yT : Nat → ClassId) (fn : Gs → Int32 → Int32 → Int64 → Int32 → Int32 → Option (Gs)) : Prop :=
  ∀ {p : Program} {e : Env} {s : State} {m : MethodId} {args : Array Value} {below : List Frame} {meth : Method} {c : Code} {H : Heap} {locs : List Loc} {A : Nat → Prop} {ls : Array Slot} {gT : Gs} {v1 : Int32} {v2 : Int32} {v3 : Int64} {v5 : Int32} {v6 : Int32} {q : Gs}, Cx p s m args meth c cX12_word none 7 RX12 lw_all → Hx D (tX12 yT) A s H locs (wX12 hT aT yT gT) → lv_has ls 7 [(0, .ref hT), (1, .int v1), (2, .int v2), (3, .long v3), (5, .int v5), (6, .int v6)] → fn gT v1 v2 v3 v5 v6 = some q → W p l e R_X12_word s m args below meth c H locs 0 0 (MQ below (QV D A (wX12 hT aT yT q)) args s 0 0 A) (F0 m 58 ls [])
def S_X12_word_4 (l : Launch) (D : Dx) (hT : Nat) (aT : Nat → Nat) (yT : Nat → ClassId) (fn : Gs → Int32 → Int32 → Int64 → Option (Gs)) : Prop :=
  ∀ {p : Program} {e : Env} {s : State} {m : MethodId} {args : Array Value} {below : List Frame} {meth : Method} {c : Code} {H : Heap} {locs : List Loc} {A : Nat → Prop} {ls : Array Slot} {gT : Gs} {v1 : Int32} {v2 : Int32} {v3 : Int64} {q : Gs}, Cx p s m args meth c cX12_word none 7 RX12 lw_all → Hx D (tX12 yT) A s H locs (wX12 hT aT yT gT) → lv_has ls 7 [(0, .ref hT), (1, .int v1), (2, .int v2), (3, .long v3)] → fn gT v1 v2 v3 = some q → W p l e R_X12_word s m args below meth c H locs 0 0 (MQ below (QV D A (wX12 hT aT yT q)) args s 0 0 A) (F0 m 4 ls [])
def SH_X12_word (l : Launch) (D : Dx) (hT : Nat) (aT : Nat → Nat) (yT : Nat → ClassId) (rec : (Gs → Int32 → Int32 → Int64 → Option (Gs)) × (Gs → Int32 → Int32 → Int64 → Int32 → Int32 → Option (Gs))) : Prop := S_X12_word_4 l D hT aT yT rec.1 ∧ S_X12_word_58 l D hT aT yT rec.2
set_option maxHeartbeats 4000000 in
set_option maxRecDepth 100000 in
theorem k_X12_word_46 (l : Launch) (D : Dx) (hT : Nat) (aT : Nat → Nat) (yT : Nat → ClassId) (n : Nat) (rec : (Gs → Int32 → Int32 → Int64 → Option (Gs)) × (Gs → Int32 → Int32 → Int64 → Int32 → Int32 → Option (Gs))) (IH : SH_X12_word l D hT aT yT rec) : S_X12_word_46 l D hT aT yT (b_X12_word_46 n rec) := by
  intro p e s m args below meth c H locs A ls gT v1 v2 v3 q C X hl hF
  obtain ⟨hx, hb, hr, hml, hown, hts, hlk⟩ := id C
  unfold b_X12_word_46 at hF
  refine lv_iinc (v := v2 + (1 : Int32)) (lv' := [(2, .int (v2 + (1 : Int32))), (0, .ref hT), (1, .int v1), (3, .long v3)]) hx hb dX12_word_46 hl (k := 2) rfl rfl (by decide) rfl (fun ls hl => ?_)
  refine lv_goto (tgt := 4) hx hb dX12_word_49 (by decide) ?_
  exact IH.1 C X (lv_sub hl [1, 2, 0, 3] rfl) hF
set_option maxHeartbeats 4000000 in
set_option maxRecDepth 100000 in
theorem k_X12_word_26 (l : Launch) (D : Dx) (hT : Nat) (aT : Nat → Nat) (yT : Nat → ClassId) (n : Nat) (rec : (Gs → Int32 → Int32 → Int64 → Option (Gs)) × (Gs → Int32 → Int32 → Int64 → Int32 → Int32 → Option (Gs))) (IH : SH_X12_word l D hT aT yT rec) : S_X12_word_26 l D hT aT yT (b_X12_word_26 n rec) := by
  intro p e s m args below meth c H locs A ls gT v1 v2 v3 q C X hl hF
  obtain ⟨hx, hb, hr, hml, hown, hts, hlk⟩ := id C
  unfold b_X12_word_26 at hF
  refine lv_iload_n hx hb dX12_word_26 rfl (lv_at hl 2 rfl) ?_
  refine lv_iload_n hx hb dX12_word_27 rfl (lv_at hl 1 rfl) ?_
  refine lv_bipush (v := (8 : Int32)) hx hb dX12_word_28 (by decide) ?_
  refine lv_iadd hx hb dX12_word_30 ?_
  refine lv_icmp_ge (tgt := 46) hx hb dX12_word_31 (by decide) (fun c => ?_) (fun c => ?_)
  · replace hF := iT c hF
    exact (k_X12_word_46 l D hT aT yT n rec IH) C X (lv_sub hl [0, 1, 2, 3] rfl) hF
  · replace hF := iF c hF
    refine lv_lload_n hx hb dX12_word_34 rfl (lv_at hl 3 rfl) ?_
    refine lv_bipush (v := (8 : Int32)) hx hb dX12_word_35 (by decide) ?_
    refine lv_lshl hx hb dX12_word_37 rfl ?_
    refine lv_aload_n hx hb dX12_word_38 rfl (lv_at hl 0 rfl) ?_
    refine lv_iload_n hx hb dX12_word_39 rfl (lv_at hl 2 rfl) ?_
    obtain ⟨q_5, hc_6, hF⟩ := bnd_some hF
    refine cV_i (As := [.int v2]) (rest := [.long (v3 <<< ((8 : Int32).toInt64 &&& 63))]) C X (c_X12_at l D hT aT yT gT v2 q_5 hc_6 _) (cwV 1 hts (good_V q8_77 q8_79 q0_67 q1_9 q8_80) rfl rfl rfl (by decide +kernel) ⟨Nat.le_of_ble_eq_true rfl, Nat.le_of_ble_eq_true rfl⟩) (va_recv X.1 X.2.1 (ci := 12) (q0 := 0) rfl rfl) X.1 X.2.1 X.2.2.1 (free_all X) hl.1 rfl rfl (Nat.le_of_ble_eq_true rfl) dX12_word_40 ⟨Nat.le_of_ble_eq_true rfl, Nat.le_of_ble_eq_true rfl⟩ (fun t H1 locs1 ht hB hk hS => ?_)
    have X : Hx D (tX12 yT) A s H1 locs1 (wX12 hT aT yT gT) := Hx_after_all X ht hB hS
    clear hk hS ht hB
    generalize H1 = H at X ⊢
    generalize locs1 = locs at X ⊢
    refine lv_i2l hx hb dX12_word_43 rfl ?_
    refine lv_lor hx hb dX12_word_44 ?_
    refine lv_lstore_n (lv' := [(3, .long ((v3 <<< ((8 : Int32).toInt64 &&& 63)) ||| q_5.toInt64)), (0, .ref hT), (1, .int v1), (2, .int v2)]) hx hb dX12_word_45 rfl hl (by decide) rfl (fun ls hl => ?_)
    exact (k_X12_word_46 l D hT aT yT n rec IH) C X (lv_sub hl [1, 2, 3, 0] rfl) hF
set_option maxHeartbeats 4000000 in
set_option maxRecDepth 100000 in
theorem k_X12_word_99 (l : Launch) (D : Dx) (hT : Nat) (aT : Nat → Nat) (yT : Nat → ClassId) (n : Nat) (rec : (Gs → Int32 → Int32 → Int64 → Option (Gs)) × (Gs → Int32 → Int32 → Int64 → Int32 → Int32 → Option (Gs))) (IH : SH_X12_word l D hT aT yT rec) : S_X12_word_99 l D hT aT yT (b_X12_word_99 n rec) := by
  intro p e s m args below meth c H locs A ls gT v1 v2 v5 q C X hl hF
  obtain ⟨hx, hb, hr, hml, hown, hts, hlk⟩ := id C
  unfold b_X12_word_99 at hF
  refine lv_iload_n hx hb dX12_word_99 rfl (lv_at hl 2 rfl) ?_
  refine lv_iload_n hx hb dX12_word_100 rfl (lv_at hl 1 rfl) ?_
  refine lv_isub hx hb dX12_word_101 ?_
  refine lv_bipush (v := (10 : Int32)) hx hb dX12_word_102 (by decide) ?_
  refine lv_icmp_le (tgt := 120) hx hb dX12_word_104 (by decide) (fun c => ?_) (fun c => ?_)
  · replace hF := iT c hF
    refine lv_aload_n hx hb dX12_word_120 rfl (lv_at hl 0 rfl) ?_
    refine lv_iload hx hb dX12_word_121 (lv_at hl 3 rfl) ?_
    refine lv_iload_n hx hb dX12_word_123 rfl (lv_at hl 1 rfl) ?_
    refine lv_iload_n hx hb dX12_word_124 rfl (lv_at hl 2 rfl) ?_
    obtain ⟨q_11, hc_12, hF⟩ := bnd_some hF
    refine cV_v (As := [.int v5, .int v1, .int v2]) (rest := []) C X (c_X12_token l D hT aT yT gT v5 v1 v2 q_11 hc_12 _) (cwV 3 hts (good_V q8_81 q8_83 q0_68 q1_9 q8_84) rfl rfl rfl (by decide +kernel) ⟨Nat.le_of_ble_eq_true rfl, Nat.le_of_ble_eq_true rfl⟩) (va_recv X.1 X.2.1 (ci := 12) (q0 := 0) rfl rfl) X.1 X.2.1 X.2.2.1 (free_all X) hl.1 rfl rfl (Nat.le_of_ble_eq_true rfl) dX12_word_125 ⟨Nat.le_of_ble_eq_true rfl, Nat.le_of_ble_eq_true rfl⟩ (fun t H1 locs1 ht hB hk hS => ?_)
    have X : Hx D (tX12 yT) A s H1 locs1 (wX12 hT aT yT q_11) := Hx_after_all X ht hB hS
    clear hk hS ht hB
    generalize H1 = H at X ⊢
    generalize locs1 = locs at X ⊢
    have hq := Option.some.inj hF
    subst hq
    exact rt_v C X dX12_word_128
  · replace hF := iF c hF
    refine lv_aload_n hx hb dX12_word_107 rfl (lv_at hl 0 rfl) ?_
    refine lv_iconst (v := (1 : Int32)) hx hb dX12_word_108 (by decide) ?_
    refine lv_iload_n hx hb dX12_word_109 rfl (lv_at hl 1 rfl) ?_
    refine lv_bipush (v := (10 : Int32)) hx hb dX12_word_110 (by decide) ?_
    refine lv_iadd hx hb dX12_word_112 ?_
    refine lv_iload_n hx hb dX12_word_113 rfl (lv_at hl 2 rfl) ?_
    obtain ⟨q_13, hc_14, hF⟩ := bnd_some hF
    refine cV_v (As := [.int (1 : Int32), .int (v1 + (10 : Int32)), .int v2]) (rest := []) C X (c_X12_token l D hT aT yT gT (1 : Int32) (v1 + (10 : Int32)) v2 q_13 hc_14 _) (cwV 3 hts (good_V q8_81 q8_83 q0_68 q1_9 q8_84) rfl rfl rfl (by decide +kernel) ⟨Nat.le_of_ble_eq_true rfl, Nat.le_of_ble_eq_true rfl⟩) (va_recv X.1 X.2.1 (ci := 12) (q0 := 0) rfl rfl) X.1 X.2.1 X.2.2.1 (free_all X) hl.1 rfl rfl (Nat.le_of_ble_eq_true rfl) dX12_word_114 ⟨Nat.le_of_ble_eq_true rfl, Nat.le_of_ble_eq_true rfl⟩ (fun t H1 locs1 ht hB hk hS => ?_)
    have X : Hx D (tX12 yT) A s H1 locs1 (wX12 hT aT yT q_13) := Hx_after_all X ht hB hS
    clear hk hS ht hB
    generalize H1 = H at X ⊢
    generalize locs1 = locs at X ⊢
    refine lv_goto (tgt := 128) hx hb dX12_word_117 (by decide) ?_
    have hq := Option.some.inj hF
    subst hq
    exact rt_v C X dX12_word_128
set_option maxHeartbeats 4000000 in
set_option maxRecDepth 100000 in
theorem k_X12_word_93 (l : Launch) (D : Dx) (hT : Nat) (aT : Nat → Nat) (yT : Nat → ClassId) (n : Nat) (rec : (Gs → Int32 → Int32 → Int64 → Option (Gs)) × (Gs → Int32 → Int32 → Int64 → Int32 → Int32 → Option (Gs))) (IH : SH_X12_word l D hT aT yT rec) : S_X12_word_93 l D hT aT yT (b_X12_word_93 n rec) := by
  intro p e s m args below meth c H locs A ls gT v1 v2 v3 v5 v6 q C X hl hF
  obtain ⟨hx, hb, hr, hml, hown, hts, hlk⟩ := id C
  unfold b_X12_word_93 at hF
  refine lv_iinc (v := v6 + (1 : Int32)) (lv' := [(6, .int (v6 + (1 : Int32))), (0, .ref hT), (1, .int v1), (2, .int v2), (3, .long v3), (5, .int v5)]) hx hb dX12_word_93 hl (k := 5) rfl rfl (by decide) rfl (fun ls hl => ?_)
  refine lv_goto (tgt := 58) hx hb dX12_word_96 (by decide) ?_
  exact IH.2 C X (lv_sub hl [1, 2, 3, 4, 5, 0] rfl) hF
set_option maxHeartbeats 4000000 in
set_option maxRecDepth 100000 in
theorem k_X12_word_58 (l : Launch) (D : Dx) (hT : Nat) (aT : Nat → Nat) (yT : Nat → ClassId) (n : Nat) (rec : (Gs → Int32 → Int32 → Int64 → Option (Gs)) × (Gs → Int32 → Int32 → Int64 → Int32 → Int32 → Option (Gs))) (IH : SH_X12_word l D hT aT yT rec) : S_X12_word_58 l D hT aT yT (h_X12_word_58 n rec) := by
  intro p e s m args below meth c H locs A ls gT v1 v2 v3 v5 v6 q C X hl hF
  obtain ⟨hx, hb, hr, hml, hown, hts, hlk⟩ := id C
  unfold h_X12_word_58 at hF
  refine lv_iload hx hb dX12_word_58 (lv_at hl 5 rfl) ?_
  refine lv_bipush (v := (26 : Int32)) hx hb dX12_word_60 (by decide) ?_
  refine lv_icmp_ge (tgt := 99) hx hb dX12_word_62 (by decide) (fun c => ?_) (fun c => ?_)
  · replace hF := iT c hF
    exact (k_X12_word_99 l D hT aT yT n rec IH) C X (lv_sub hl [0, 1, 2, 4] rfl) hF
  · replace hF := iF c hF
    refine lv_iload_n hx hb dX12_word_65 rfl (lv_at hl 2 rfl) ?_
    refine lv_iload_n hx hb dX12_word_66 rfl (lv_at hl 1 rfl) ?_
    refine lv_isub hx hb dX12_word_67 ?_
    refine lv_bipush (v := (6 : Int32)) hx hb dX12_word_68 (by decide) ?_
    refine lv_icmp_gt (tgt := 99) hx hb dX12_word_70 (by decide) (fun c => ?_) (fun c => ?_)
    · replace hF := iT c hF
      exact (k_X12_word_99 l D hT aT yT n rec IH) C X (lv_sub hl [0, 1, 2, 4] rfl) hF
    · replace hF := iF c hF
      refine lv_aload_n hx hb dX12_word_73 rfl (lv_at hl 0 rfl) ?_
      refine va_get (D := D.1) (ci := 12) (v := .ref (aT 7)) (C := RX12) (T := TX12) (N := 114) hx hb hts wi_X12 hown X.1 X.2.1 0 rfl rfl 7 (by decide) (hts _ q6_201) (fun _ h9 => h9) (fl_get (by decide)) dX12_word_74 ?_
      refine lv_iload hx hb dX12_word_77 (lv_at hl 5 rfl) ?_
      obtain ⟨h_15, hF⟩ := grd_some hF
      refine va_lald (D := D.1) (f := gLA gT 7) hx hb X.1 X.2.1 3 2 rfl rfl (inB_ok h_15) dX12_word_79 ?_
      refine lv_lload_n hx hb dX12_word_80 rfl (lv_at hl 3 rfl) ?_
      refine W.lcmp hx hb dX12_word_81 ?_
      refine lv_if_ne (tgt := 93) hx hb dX12_word_82 (by decide) (fun c => ?_) (fun c => ?_)
      · have c := fun h => c ((lg_cmp_eq _ _).mpr h)
        replace hF := iF c hF
        exact (k_X12_word_93 l D hT aT yT n rec IH) C X (lv_sub hl [0, 1, 2, 3, 4, 5] rfl) hF
      · have c := (lg_cmp_eq _ _).mp c
        replace hF := iT c hF
        refine lv_sipush (v := (200 : Int32)) hx hb dX12_word_85 (by decide) ?_
        refine lv_iload hx hb dX12_word_88 (lv_at hl 5 rfl) ?_
        refine lv_iadd hx hb dX12_word_90 ?_
        refine lv_istore (lv' := [(5, .int ((200 : Int32) + v6)), (0, .ref hT), (1, .int v1), (2, .int v2), (3, .long v3), (6, .int v6)]) hx hb dX12_word_91 hl (by decide) rfl (fun ls hl => ?_)
        exact (k_X12_word_93 l D hT aT yT n rec IH) C X (lv_sub hl [1, 2, 3, 4, 0, 5] rfl) hF
set_option maxHeartbeats 4000000 in
set_option maxRecDepth 100000 in
theorem k_X12_word_4 (l : Launch) (D : Dx) (hT : Nat) (aT : Nat → Nat) (yT : Nat → ClassId) (n : Nat) (rec : (Gs → Int32 → Int32 → Int64 → Option (Gs)) × (Gs → Int32 → Int32 → Int64 → Int32 → Int32 → Option (Gs))) (IH : SH_X12_word l D hT aT yT rec) : S_X12_word_4 l D hT aT yT (h_X12_word_4 n rec) := by
  intro p e s m args below meth c H locs A ls gT v1 v2 v3 q C X hl hF
  obtain ⟨hx, hb, hr, hml, hown, hts, hlk⟩ := id C
  unfold h_X12_word_4 at hF
  refine lv_aload_n hx hb dX12_word_4 rfl (lv_at hl 0 rfl) ?_
  refine lv_iload_n hx hb dX12_word_5 rfl (lv_at hl 2 rfl) ?_
  obtain ⟨q_1, hc_2, hF⟩ := bnd_some hF
  refine cV_i (As := [.int v2]) (rest := []) C X (c_X12_at l D hT aT yT gT v2 q_1 hc_2 _) (cwV 1 hts (good_V q8_77 q8_79 q0_67 q1_9 q8_80) rfl rfl rfl (by decide +kernel) ⟨Nat.le_of_ble_eq_true rfl, Nat.le_of_ble_eq_true rfl⟩) (va_recv X.1 X.2.1 (ci := 12) (q0 := 0) rfl rfl) X.1 X.2.1 X.2.2.1 (free_all X) hl.1 rfl rfl (Nat.le_of_ble_eq_true rfl) dX12_word_6 ⟨Nat.le_of_ble_eq_true rfl, Nat.le_of_ble_eq_true rfl⟩ (fun t H1 locs1 ht hB hk hS => ?_)
  have X : Hx D (tX12 yT) A s H1 locs1 (wX12 hT aT yT gT) := Hx_after_all X ht hB hS
  clear hk hS ht hB
  generalize H1 = H at X ⊢
  generalize locs1 = locs at X ⊢
  obtain ⟨q_3, hc_4, hF⟩ := bnd_some hF
  refine cS_i (As := [.int q_1]) (rest := []) C X (c_X12_isLetter l D  q_1 q_3 hc_4 _) (va_cwS 1 hts (good_S q8_85 q8_86 q1_9 q8_87) rfl rfl rfl (by decide +kernel) ⟨Nat.le_of_ble_eq_true rfl, Nat.le_of_ble_eq_true rfl⟩) (eK X) eP (eD (A := A)) (eF X) hl.1 rfl rfl (Nat.le_of_ble_eq_true rfl) dX12_word_9 ⟨Nat.le_of_ble_eq_true rfl, Nat.le_of_ble_eq_true rfl⟩ (fun t H1 locs1 ht hB hk hS => ?_)
  have X := Hx_after_none X hk hS
  clear hk hS ht hB
  generalize H1 = H at X ⊢
  generalize locs1 = locs at X ⊢
  refine lv_if_ne (tgt := 26) hx hb dX12_word_12 (by decide) (fun c => ?_) (fun c => ?_)
  · replace hF := iF c hF
    exact (k_X12_word_26 l D hT aT yT n rec IH) C X (lv_sub hl [0, 1, 2, 3] rfl) hF
  · replace hF := iT c hF
    refine lv_aload_n hx hb dX12_word_15 rfl (lv_at hl 0 rfl) ?_
    refine lv_iload_n hx hb dX12_word_16 rfl (lv_at hl 2 rfl) ?_
    obtain ⟨q_7, hc_8, hF⟩ := bnd_some hF
    refine cV_i (As := [.int v2]) (rest := []) C X (c_X12_at l D hT aT yT gT v2 q_7 hc_8 _) (cwV 1 hts (good_V q8_77 q8_79 q0_67 q1_9 q8_80) rfl rfl rfl (by decide +kernel) ⟨Nat.le_of_ble_eq_true rfl, Nat.le_of_ble_eq_true rfl⟩) (va_recv X.1 X.2.1 (ci := 12) (q0 := 0) rfl rfl) X.1 X.2.1 X.2.2.1 (free_all X) hl.1 rfl rfl (Nat.le_of_ble_eq_true rfl) dX12_word_17 ⟨Nat.le_of_ble_eq_true rfl, Nat.le_of_ble_eq_true rfl⟩ (fun t H1 locs1 ht hB hk hS => ?_)
    have X : Hx D (tX12 yT) A s H1 locs1 (wX12 hT aT yT gT) := Hx_after_all X ht hB hS
    clear hk hS ht hB
    generalize H1 = H at X ⊢
    generalize locs1 = locs at X ⊢
    obtain ⟨q_9, hc_10, hF⟩ := bnd_some hF
    refine cS_i (As := [.int q_7]) (rest := []) C X (c_X12_isDigit l D  q_7 q_9 hc_10 _) (va_cwS 1 hts (good_S q8_92 q8_93 q1_9 q8_94) rfl rfl rfl (by decide +kernel) ⟨Nat.le_of_ble_eq_true rfl, Nat.le_of_ble_eq_true rfl⟩) (eK X) eP (eD (A := A)) (eF X) hl.1 rfl rfl (Nat.le_of_ble_eq_true rfl) dX12_word_20 ⟨Nat.le_of_ble_eq_true rfl, Nat.le_of_ble_eq_true rfl⟩ (fun t H1 locs1 ht hB hk hS => ?_)
    have X := Hx_after_none X hk hS
    clear hk hS ht hB
    generalize H1 = H at X ⊢
    generalize locs1 = locs at X ⊢
    refine lv_if_eq (tgt := 52) hx hb dX12_word_23 (by decide) (fun c => ?_) (fun c => ?_)
    · replace hF := iT c hF
      refine lv_iconst (v := (2 : Int32)) hx hb dX12_word_52 (by decide) ?_
      refine lv_istore (lv' := [(5, .int (2 : Int32)), (0, .ref hT), (1, .int v1), (2, .int v2), (3, .long v3)]) hx hb dX12_word_53 hl (by decide) rfl (fun ls hl => ?_)
      refine lv_iconst (v := (0 : Int32)) hx hb dX12_word_55 (by decide) ?_
      refine lv_istore (lv' := [(6, .int (0 : Int32)), (5, .int (2 : Int32)), (0, .ref hT), (1, .int v1), (2, .int v2), (3, .long v3)]) hx hb dX12_word_56 hl (by decide) rfl (fun ls hl => ?_)
      exact IH.2 C X (lv_sub hl [2, 3, 4, 5, 1, 0] rfl) hF
    · replace hF := iF c hF
      exact (k_X12_word_26 l D hT aT yT n rec IH) C X (lv_sub hl [0, 1, 2, 3] rfl) hF
theorem kL_X12_word (l : Launch) (D : Dx) (hT : Nat) (aT : Nat → Nat) (yT : Nat → ClassId) (n : Nat) : ∀ k, SH_X12_word l D hT aT yT (L_X12_word n k)
  | 0 => ⟨(fun _ _ _ h => by cases h), (fun _ _ _ h => by cases h)⟩
  | k + 1 => ⟨k_X12_word_4 l D hT aT yT n _ (kL_X12_word l D hT aT yT n k), k_X12_word_58 l D hT aT yT n _ (kL_X12_word l D hT aT yT n k)⟩
set_option maxHeartbeats 4000000 in
set_option maxRecDepth 100000 in
theorem c_X12_word (l : Launch) (D : Dx) (hT : Nat) (aT : Nat → Nat) (yT : Nat → ClassId) (n : Nat) (gT : Gs) (x0 : Int32) (q : Gs) (hF : f_X12_word n gT x0 = some q) (sz : Nat) : Met l yX12_word (ws_ yX12_word cX12_word 7 none) R_X12_word (PC D (tX12 yT) [.ref hT, .int x0] (wX12 hT aT yT gT) sz) (QV D (va_A (wX12 hT aT yT gT) sz) (wX12 hT aT yT q)) 0 0 (va_A (wX12 hT aT yT gT) sz) := by
  refine Met.ofW (cc := cX12_word) (maxL := 7) (ret := none) (by decide) rfl ?_
  intro p e s m args below meth c s₁ B hml hv
  obtain ⟨rfl, hsz, hP, hK, hD, hN⟩ := hv
  subst hsz
  have C : Cx p s m _ meth c cX12_word none 7 RX12 lw_all := Cx_of B hml
  have X := Hx_start hP hK hD hN
  obtain ⟨hx, hb, hr, -, hown, hts, hlk⟩ := id C
  generalize va_A (wX12 hT aT yT gT) s.heap.size = A at X ⊢
  have hl := lv_entry ([.ref hT, .int x0]) (n := 7) (Nat.le_of_ble_eq_true rfl)
  rw [lg_entry_eq]
  generalize (lg_sl ([.ref hT, .int x0]) ++ List.replicate (7 - (lg_sl ([.ref hT, .int x0])).length) Slot.unset).toArray = ls at hl ⊢
  have hl : lv_has ls 7 [(0, .ref hT), (1, .int x0)] := hl
  unfold f_X12_word at hF
  refine lv_iload_n hx hb dX12_word_0 rfl (lv_at hl 1 rfl) ?_
  refine lv_istore_n (lv' := [(2, .int x0), (0, .ref hT), (1, .int x0)]) hx hb dX12_word_1 rfl hl (by decide) rfl (fun ls hl => ?_)
  refine lv_lconst (v := (0 : Int64)) hx hb dX12_word_2 (by decide) ?_
  refine lv_lstore_n (lv' := [(3, .long (0 : Int64)), (2, .int x0), (0, .ref hT), (1, .int x0)]) hx hb dX12_word_3 rfl hl (by decide) rfl (fun ls hl => ?_)
  exact (kL_X12_word l D hT aT yT n n).1 C X (lv_sub hl [2, 3, 1, 0] rfl) hF

/-! ### X12_realOf -/
theorem dX12_realOf_0 : decode cX12_realOf 0 = .ok (.dconst 1, 1) := by decide +kernel
theorem dX12_realOf_1 : decode cX12_realOf 1 = .ok (.dstore 6, 2) := by decide +kernel
theorem dX12_realOf_3 : decode cX12_realOf 3 = .ok (.iconst 0, 1) := by decide +kernel
theorem dX12_realOf_4 : decode cX12_realOf 4 = .ok (.istore 8, 2) := by decide +kernel
theorem dX12_realOf_6 : decode cX12_realOf 6 = .ok (.iload 8, 2) := by decide +kernel
theorem dX12_realOf_8 : decode cX12_realOf 8 = .ok (.iload_n 3, 1) := by decide +kernel
theorem dX12_realOf_9 : decode cX12_realOf 9 = .ok (.if_icmp .ge 17, 3) := by decide +kernel
theorem dX12_realOf_12 : decode cX12_realOf 12 = .ok (.dload 6, 2) := by decide +kernel
theorem dX12_realOf_14 : decode cX12_realOf 14 = .ok (.ldc2_w 535, 3) := by decide +kernel
theorem dX12_realOf_17 : decode cX12_realOf 17 = .ok (.dmul, 1) := by decide +kernel
theorem dX12_realOf_18 : decode cX12_realOf 18 = .ok (.dstore 6, 2) := by decide +kernel
theorem dX12_realOf_20 : decode cX12_realOf 20 = .ok (.iinc 8 1, 3) := by decide +kernel
theorem dX12_realOf_23 : decode cX12_realOf 23 = .ok (.goto (-17), 3) := by decide +kernel
theorem dX12_realOf_26 : decode cX12_realOf 26 = .ok (.aload_n 0, 1) := by decide +kernel
theorem dX12_realOf_27 : decode cX12_realOf 27 = .ok (.lload_n 1, 1) := by decide +kernel
theorem dX12_realOf_28 : decode cX12_realOf 28 = .ok (.l2d, 1) := by decide +kernel
theorem dX12_realOf_29 : decode cX12_realOf 29 = .ok (.dload 6, 2) := by decide +kernel
theorem dX12_realOf_31 : decode cX12_realOf 31 = .ok (.ddiv, 1) := by decide +kernel
theorem dX12_realOf_32 : decode cX12_realOf 32 = .ok (.invokestatic 497, 3) := by decide +kernel
theorem dX12_realOf_35 : decode cX12_realOf 35 = .ok (.bipush 7, 2) := by decide +kernel
theorem dX12_realOf_37 : decode cX12_realOf 37 = .ok (.invokevirtual 432, 3) := by decide +kernel
theorem dX12_realOf_40 : decode cX12_realOf 40 = .ok (.iconst 0, 1) := by decide +kernel
theorem dX12_realOf_41 : decode cX12_realOf 41 = .ok (.aload_n 0, 1) := by decide +kernel
theorem dX12_realOf_42 : decode cX12_realOf 42 = .ok (.getfield 408, 3) := by decide +kernel
theorem dX12_realOf_45 : decode cX12_realOf 45 = .ok (.aload_n 0, 1) := by decide +kernel
theorem dX12_realOf_46 : decode cX12_realOf 46 = .ok (.getfield 413, 3) := by decide +kernel
theorem dX12_realOf_49 : decode cX12_realOf 49 = .ok (.iload 4, 2) := by decide +kernel
theorem dX12_realOf_51 : decode cX12_realOf 51 = .ok (.iadd, 1) := by decide +kernel
theorem dX12_realOf_52 : decode cX12_realOf 52 = .ok (.bipush 7, 2) := by decide +kernel
theorem dX12_realOf_54 : decode cX12_realOf 54 = .ok (.invokestatic 458, 3) := by decide +kernel
theorem dX12_realOf_57 : decode cX12_realOf 57 = .ok (.lstore 8, 2) := by decide +kernel
theorem dX12_realOf_59 : decode cX12_realOf 59 = .ok (.lload 8, 2) := by decide +kernel
theorem dX12_realOf_61 : decode cX12_realOf 61 = .ok (.ldc2_w 424, 3) := by decide +kernel
theorem dX12_realOf_64 : decode cX12_realOf 64 = .ok (.lcmp, 1) := by decide +kernel
theorem dX12_realOf_65 : decode cX12_realOf 65 = .ok (.ifCond .eq 10, 3) := by decide +kernel
theorem dX12_realOf_68 : decode cX12_realOf 68 = .ok (.iload 5, 2) := by decide +kernel
theorem dX12_realOf_70 : decode cX12_realOf 70 = .ok (.bipush 7, 2) := by decide +kernel
theorem dX12_realOf_72 : decode cX12_realOf 72 = .ok (.if_icmp .ne 6, 3) := by decide +kernel
theorem dX12_realOf_75 : decode cX12_realOf 75 = .ok (.lload 8, 2) := by decide +kernel
theorem dX12_realOf_77 : decode cX12_realOf 77 = .ok (.lreturn, 1) := by decide +kernel
theorem dX12_realOf_78 : decode cX12_realOf 78 = .ok (.aload_n 0, 1) := by decide +kernel
theorem dX12_realOf_79 : decode cX12_realOf 79 = .ok (.lload 8, 2) := by decide +kernel
theorem dX12_realOf_81 : decode cX12_realOf 81 = .ok (.bipush 7, 2) := by decide +kernel
theorem dX12_realOf_83 : decode cX12_realOf 83 = .ok (.bipush 6, 2) := by decide +kernel
theorem dX12_realOf_85 : decode cX12_realOf 85 = .ok (.invokevirtual 488, 3) := by decide +kernel
theorem dX12_realOf_88 : decode cX12_realOf 88 = .ok (.lreturn, 1) := by decide +kernel
abbrev R_X12_realOf : Room := ({ frames := 4, cells := 0, slots := 0, locals := 104 } : Room)
def h_X12_realOf_6 (n : Nat) (rec : (Gs → Int64 → Int32 → Int32 → Int32 → UInt64 → Int32 → Option (Int64 × Gs))) (gT : Gs) (v1 : Int64) (v3 : Int32) (v4 : Int32) (v5 : Int32) (v6 : UInt64) (v8 : Int32) : Option (Int64 × Gs) :=
  if v3 ≤ v8 then (grd (n64 (FP.ddiv (FP.l2d v1) v6)) (bnd (f_Jxe99ae_doubleToLongBits_ccdee (FP.ddiv (FP.l2d v1) v6)) (fun q_2 => bnd (f_X12_open gT q_2 (7 : Int32)) (fun q_4 => bnd (f_X12_made n (0 : Int32) (gL q_4 1) ((gI q_4 2) + v4) (7 : Int32)) (fun q_6 => if q_6 = (9223372036854775807 : Int64) then (some (q_6, q_4)) else (if v5 = (7 : Int32) then (some (q_6, q_4)) else (bnd (f_X12_become n q_4 q_6 (7 : Int32) (6 : Int32)) (fun q_8 => some (q_8.1, q_8.2))))))))) else (grd (n64 (FP.dmul v6 (4621819117588971520 : UInt64))) (rec gT v1 v3 v4 v5 (FP.dmul v6 (4621819117588971520 : UInt64)) (v8 + (1 : Int32))))
def L_X12_realOf (n : Nat) : Nat → (Gs → Int64 → Int32 → Int32 → Int32 → UInt64 → Int32 → Option (Int64 × Gs))
  | 0 => ((fun _ _ _ _ _ _ _ => none))
  | k + 1 => (h_X12_realOf_6 n (L_X12_realOf n k))
def f_X12_realOf (n : Nat) (gT : Gs) (x0 : Int64) (x1 : Int32) (x2 : Int32) (x3 : Int32) : Option (Int64 × Gs) :=
  (L_X12_realOf n n) gT x0 x1 x2 x3 FP.dconst1 (0 : Int32)
def S_X12_realOf_6 (l : Launch) (D : Dx) (hT : Nat) (aT : Nat → Nat) (yT : Nat → ClassId) (fn : Gs → Int64 → Int32 → Int32 → Int32 → UInt64 → Int32 → Option (Int64 × Gs)) : Prop :=
  ∀ {p : Program} {e : Env} {s : State} {m : MethodId} {args : Array Value} {below : List Frame} {meth : Method} {c : Code} {H : Heap} {locs : List Loc} {A : Nat → Prop} {ls : Array Slot} {gT : Gs} {v1 : Int64} {v3 : Int32} {v4 : Int32} {v5 : Int32} {v6 : UInt64} {v8 : Int32} {q : Int64 × Gs}, Cx p s m args meth c cX12_realOf (some .long) 10 RX12 lw_all → Hx D (tX12 yT) A s H locs (wX12 hT aT yT gT) → lv_has ls 10 [(0, .ref hT), (1, .long v1), (3, .int v3), (4, .int v4), (5, .int v5), (6, .double v6), (8, .int v8)] → fn gT v1 v3 v4 v5 v6 v8 = some q → W p l e R_X12_realOf s m args below meth c H locs 0 0 (MQ below (QL D A (wX12 hT aT yT q.2) q.1) args s 0 0 A) (F0 m 6 ls [])
def SH_X12_realOf (l : Launch) (D : Dx) (hT : Nat) (aT : Nat → Nat) (yT : Nat → ClassId) (rec : (Gs → Int64 → Int32 → Int32 → Int32 → UInt64 → Int32 → Option (Int64 × Gs))) : Prop := S_X12_realOf_6 l D hT aT yT rec
set_option maxHeartbeats 4000000 in
set_option maxRecDepth 100000 in
theorem k_X12_realOf_6 (l : Launch) (D : Dx) (hT : Nat) (aT : Nat → Nat) (yT : Nat → ClassId) (n : Nat) (rec : (Gs → Int64 → Int32 → Int32 → Int32 → UInt64 → Int32 → Option (Int64 × Gs))) (IH : SH_X12_realOf l D hT aT yT rec) : S_X12_realOf_6 l D hT aT yT (h_X12_realOf_6 n rec) := by
  intro p e s m args below meth c H locs A ls gT v1 v3 v4 v5 v6 v8 q C X hl hF
  obtain ⟨hx, hb, hr, hml, hown, hts, hlk⟩ := id C
  unfold h_X12_realOf_6 at hF
  refine lv_iload hx hb dX12_realOf_6 (lv_at hl 6 rfl) ?_
  refine lv_iload_n hx hb dX12_realOf_8 rfl (lv_at hl 2 rfl) ?_
  refine lv_icmp_ge (tgt := 26) hx hb dX12_realOf_9 (by decide) (fun c => ?_) (fun c => ?_)
  · replace hF := iT c hF
    refine lv_aload_n hx hb dX12_realOf_26 rfl (lv_at hl 0 rfl) ?_
    refine lv_lload_n hx hb dX12_realOf_27 rfl (lv_at hl 1 rfl) ?_
    refine lv_l2d hx hb dX12_realOf_28 ?_
    refine lv_dload hx hb dX12_realOf_29 (lv_at hl 5 rfl) ?_
    obtain ⟨h_1, hF⟩ := grd_some hF
    refine lv_ddiv hx hb dX12_realOf_31 (n64_ok h_1) ?_
    obtain ⟨q_2, hc_3, hF⟩ := bnd_some hF
    refine cS_l (As := [.double (FP.ddiv (FP.l2d v1) v6)]) (rest := [.ref hT]) C X (c_Jxe99ae_doubleToLongBits_ccdee l D  (FP.ddiv (FP.l2d v1) v6) q_2 hc_3 _) (va_cwS 1 hts (good_S q8_110 q8_111 q1_24 q8_112) rfl rfl rfl (by decide +kernel) ⟨Nat.le_of_ble_eq_true rfl, Nat.le_of_ble_eq_true rfl⟩) (eK X) eP (eD (A := A)) (eF X) hl.1 rfl rfl (Nat.le_of_ble_eq_true rfl) dX12_realOf_32 ⟨Nat.le_of_ble_eq_true rfl, Nat.le_of_ble_eq_true rfl⟩ (fun t H1 locs1 ht hB hk hS => ?_)
    have X := Hx_after_none X hk hS
    clear hk hS ht hB
    generalize H1 = H at X ⊢
    generalize locs1 = locs at X ⊢
    refine lv_bipush (v := (7 : Int32)) hx hb dX12_realOf_35 (by decide) ?_
    obtain ⟨q_4, hc_5, hF⟩ := bnd_some hF
    refine cV_v (As := [.long q_2, .int (7 : Int32)]) (rest := []) C X (c_X12_open l D hT aT yT gT q_2 (7 : Int32) q_4 hc_5 _) (cwV 2 hts (good_V q8_120 q8_122 q0_72 q1_9 q8_123) rfl rfl rfl (by decide +kernel) ⟨Nat.le_of_ble_eq_true rfl, Nat.le_of_ble_eq_true rfl⟩) (va_recv X.1 X.2.1 (ci := 12) (q0 := 0) rfl rfl) X.1 X.2.1 X.2.2.1 (free_all X) hl.1 rfl rfl (Nat.le_of_ble_eq_true rfl) dX12_realOf_37 ⟨Nat.le_of_ble_eq_true rfl, Nat.le_of_ble_eq_true rfl⟩ (fun t H1 locs1 ht hB hk hS => ?_)
    have X : Hx D (tX12 yT) A s H1 locs1 (wX12 hT aT yT q_4) := Hx_after_all X ht hB hS
    clear hk hS ht hB
    generalize H1 = H at X ⊢
    generalize locs1 = locs at X ⊢
    refine lv_iconst (v := (0 : Int32)) hx hb dX12_realOf_40 (by decide) ?_
    refine lv_aload_n hx hb dX12_realOf_41 rfl (lv_at hl 0 rfl) ?_
    refine va_get (D := D.1) (ci := 12) (v := .long (gL q_4 1)) (C := RX12) (T := TX12) (N := 114) hx hb hts wi_X12 hown X.1 X.2.1 0 rfl rfl 1 (by decide) (hts _ q6_195) (fun _ h9 => h9) (fl_get (by decide)) dX12_realOf_42 ?_
    refine lv_aload_n hx hb dX12_realOf_45 rfl (lv_at hl 0 rfl) ?_
    refine va_get (D := D.1) (ci := 12) (v := .int (gI q_4 2)) (C := RX12) (T := TX12) (N := 114) hx hb hts wi_X12 hown X.1 X.2.1 0 rfl rfl 2 (by decide) (hts _ q6_196) (fun _ h9 => h9) (fl_get (by decide)) dX12_realOf_46 ?_
    refine lv_iload hx hb dX12_realOf_49 (lv_at hl 3 rfl) ?_
    refine lv_iadd hx hb dX12_realOf_51 ?_
    refine lv_bipush (v := (7 : Int32)) hx hb dX12_realOf_52 (by decide) ?_
    obtain ⟨q_6, hc_7, hF⟩ := bnd_some hF
    refine cS_l (As := [.int (0 : Int32), .long (gL q_4 1), .int ((gI q_4 2) + v4), .int (7 : Int32)]) (rest := []) C X (c_X12_made l D  n (0 : Int32) (gL q_4 1) ((gI q_4 2) + v4) (7 : Int32) q_6 hc_7 _) (va_cwS 4 hts (good_S q8_128 q8_129 q1_9 q8_130) rfl rfl rfl (by decide +kernel) ⟨Nat.le_of_ble_eq_true rfl, Nat.le_of_ble_eq_true rfl⟩) (eK X) eP (eD (A := A)) (eF X) hl.1 rfl rfl (Nat.le_of_ble_eq_true rfl) dX12_realOf_54 ⟨Nat.le_of_ble_eq_true rfl, Nat.le_of_ble_eq_true rfl⟩ (fun t H1 locs1 ht hB hk hS => ?_)
    have X := Hx_after_none X hk hS
    clear hk hS ht hB
    generalize H1 = H at X ⊢
    generalize locs1 = locs at X ⊢
    refine lv_lstore (lv' := [(8, .long q_6), (0, .ref hT), (1, .long v1), (3, .int v3), (4, .int v4), (5, .int v5), (6, .double v6)]) hx hb dX12_realOf_57 hl (by decide) rfl (fun ls hl => ?_)
    refine lv_lload hx hb dX12_realOf_59 (lv_at hl 0 rfl) ?_
    refine lv_ldc2 hx hb hown (hts _ q8_99) dX12_realOf_61 ?_
    refine W.lcmp hx hb dX12_realOf_64 ?_
    refine lv_if_eq (tgt := 75) hx hb dX12_realOf_65 (by decide) (fun c => ?_) (fun c => ?_)
    · have c := (lg_cmp_eq _ _).mp c
      replace hF := iT c hF
      refine lv_lload hx hb dX12_realOf_75 (lv_at hl 0 rfl) ?_
      have hq := Option.some.inj hF
      subst hq
      exact rt_l C X dX12_realOf_77
    · have c := fun h => c ((lg_cmp_eq _ _).mpr h)
      replace hF := iF c hF
      refine lv_iload hx hb dX12_realOf_68 (lv_at hl 5 rfl) ?_
      refine lv_bipush (v := (7 : Int32)) hx hb dX12_realOf_70 (by decide) ?_
      refine lv_icmp_ne (tgt := 78) hx hb dX12_realOf_72 (by decide) (fun c => ?_) (fun c => ?_)
      · replace hF := iF c hF
        refine lv_aload_n hx hb dX12_realOf_78 rfl (lv_at hl 1 rfl) ?_
        refine lv_lload hx hb dX12_realOf_79 (lv_at hl 0 rfl) ?_
        refine lv_bipush (v := (7 : Int32)) hx hb dX12_realOf_81 (by decide) ?_
        refine lv_bipush (v := (6 : Int32)) hx hb dX12_realOf_83 (by decide) ?_
        obtain ⟨q_8, hc_9, hF⟩ := bnd_some hF
        refine cV_l (As := [.long q_6, .int (7 : Int32), .int (6 : Int32)]) (rest := []) C X (c_X12_become l D hT aT yT n q_4 q_6 (7 : Int32) (6 : Int32) q_8 hc_9 _) (cwV 3 hts (good_V q8_136 q8_138 q0_73 q1_9 q8_139) rfl rfl rfl (by decide +kernel) ⟨Nat.le_of_ble_eq_true rfl, Nat.le_of_ble_eq_true rfl⟩) (va_recv X.1 X.2.1 (ci := 12) (q0 := 0) rfl rfl) X.1 X.2.1 X.2.2.1 (free_all X) hl.1 rfl rfl (Nat.le_of_ble_eq_true rfl) dX12_realOf_85 ⟨Nat.le_of_ble_eq_true rfl, Nat.le_of_ble_eq_true rfl⟩ (fun t H1 locs1 ht hB hk hS => ?_)
        have X : Hx D (tX12 yT) A s H1 locs1 (wX12 hT aT yT q_8.2) := Hx_after_all X ht hB hS
        clear hk hS ht hB
        generalize H1 = H at X ⊢
        generalize locs1 = locs at X ⊢
        have hq := Option.some.inj hF
        subst hq
        exact rt_l C X dX12_realOf_88
      · replace hF := iT c hF
        refine lv_lload hx hb dX12_realOf_75 (lv_at hl 0 rfl) ?_
        have hq := Option.some.inj hF
        subst hq
        exact rt_l C X dX12_realOf_77
  · replace hF := iF c hF
    refine lv_dload hx hb dX12_realOf_12 (lv_at hl 5 rfl) ?_
    refine lv_ldc2d hx hb hown (hts _ q8_109) dX12_realOf_14 ?_
    obtain ⟨h_10, hF⟩ := grd_some hF
    refine lv_dmul hx hb dX12_realOf_17 (n64_ok h_10) ?_
    refine lv_dstore (lv' := [(6, .double (FP.dmul v6 (4621819117588971520 : UInt64))), (0, .ref hT), (1, .long v1), (3, .int v3), (4, .int v4), (5, .int v5), (8, .int v8)]) hx hb dX12_realOf_18 hl (by decide) rfl (fun ls hl => ?_)
    refine lv_iinc (v := v8 + (1 : Int32)) (lv' := [(8, .int (v8 + (1 : Int32))), (6, .double (FP.dmul v6 (4621819117588971520 : UInt64))), (0, .ref hT), (1, .long v1), (3, .int v3), (4, .int v4), (5, .int v5)]) hx hb dX12_realOf_20 hl (k := 6) rfl rfl (by decide) rfl (fun ls hl => ?_)
    refine lv_goto (tgt := 6) hx hb dX12_realOf_23 (by decide) ?_
    exact IH C X (lv_sub hl [2, 3, 4, 5, 6, 1, 0] rfl) hF
theorem kL_X12_realOf (l : Launch) (D : Dx) (hT : Nat) (aT : Nat → Nat) (yT : Nat → ClassId) (n : Nat) : ∀ k, SH_X12_realOf l D hT aT yT (L_X12_realOf n k)
  | 0 => fun _ _ _ h => by cases h
  | k + 1 => k_X12_realOf_6 l D hT aT yT n _ (kL_X12_realOf l D hT aT yT n k)
set_option maxHeartbeats 4000000 in
set_option maxRecDepth 100000 in
theorem c_X12_realOf (l : Launch) (D : Dx) (hT : Nat) (aT : Nat → Nat) (yT : Nat → ClassId) (n : Nat) (gT : Gs) (x0 : Int64) (x1 : Int32) (x2 : Int32) (x3 : Int32) (q : Int64 × Gs) (hF : f_X12_realOf n gT x0 x1 x2 x3 = some q) (sz : Nat) : Met l yX12_realOf (ws_ yX12_realOf cX12_realOf 10 (some .long)) R_X12_realOf (PC D (tX12 yT) [.ref hT, .long x0, .int x1, .int x2, .int x3] (wX12 hT aT yT gT) sz) (QL D (va_A (wX12 hT aT yT gT) sz) (wX12 hT aT yT q.2) q.1) 0 0 (va_A (wX12 hT aT yT gT) sz) := by
  refine Met.ofW (cc := cX12_realOf) (maxL := 10) (ret := (some .long)) (by decide) rfl ?_
  intro p e s m args below meth c s₁ B hml hv
  obtain ⟨rfl, hsz, hP, hK, hD, hN⟩ := hv
  subst hsz
  have C : Cx p s m _ meth c cX12_realOf (some .long) 10 RX12 lw_all := Cx_of B hml
  have X := Hx_start hP hK hD hN
  obtain ⟨hx, hb, hr, -, hown, hts, hlk⟩ := id C
  generalize va_A (wX12 hT aT yT gT) s.heap.size = A at X ⊢
  have hl := lv_entry ([.ref hT, .long x0, .int x1, .int x2, .int x3]) (n := 10) (Nat.le_of_ble_eq_true rfl)
  rw [lg_entry_eq]
  generalize (lg_sl ([.ref hT, .long x0, .int x1, .int x2, .int x3]) ++ List.replicate (10 - (lg_sl ([.ref hT, .long x0, .int x1, .int x2, .int x3])).length) Slot.unset).toArray = ls at hl ⊢
  have hl : lv_has ls 10 [(0, .ref hT), (1, .long x0), (3, .int x1), (4, .int x2), (5, .int x3)] := hl
  unfold f_X12_realOf at hF
  refine lv_dconst1 hx hb dX12_realOf_0 ?_
  refine lv_dstore (lv' := [(6, .double FP.dconst1), (0, .ref hT), (1, .long x0), (3, .int x1), (4, .int x2), (5, .int x3)]) hx hb dX12_realOf_1 hl (by decide) rfl (fun ls hl => ?_)
  refine lv_iconst (v := (0 : Int32)) hx hb dX12_realOf_3 (by decide) ?_
  refine lv_istore (lv' := [(8, .int (0 : Int32)), (6, .double FP.dconst1), (0, .ref hT), (1, .long x0), (3, .int x1), (4, .int x2), (5, .int x3)]) hx hb dX12_realOf_4 hl (by decide) rfl (fun ls hl => ?_)
  exact (kL_X12_realOf l D hT aT yT n n) C X (lv_sub hl [2, 3, 4, 5, 6, 1, 0] rfl) hF

/-! ### X12_number -/
theorem dX12_number_0 : decode cX12_number 0 = .ok (.iload_n 1, 1) := by decide +kernel
theorem dX12_number_1 : decode cX12_number 1 = .ok (.istore_n 2, 1) := by decide +kernel
theorem dX12_number_2 : decode cX12_number 2 = .ok (.aload_n 0, 1) := by decide +kernel
theorem dX12_number_3 : decode cX12_number 3 = .ok (.iload_n 2, 1) := by decide +kernel
theorem dX12_number_4 : decode cX12_number 4 = .ok (.invokevirtual 505, 3) := by decide +kernel
theorem dX12_number_7 : decode cX12_number 7 = .ok (.invokestatic 520, 3) := by decide +kernel
theorem dX12_number_10 : decode cX12_number 10 = .ok (.ifCond .ne 46, 3) := by decide +kernel
theorem dX12_number_13 : decode cX12_number 13 = .ok (.aload_n 0, 1) := by decide +kernel
theorem dX12_number_14 : decode cX12_number 14 = .ok (.iload_n 2, 1) := by decide +kernel
theorem dX12_number_15 : decode cX12_number 15 = .ok (.invokevirtual 505, 3) := by decide +kernel
theorem dX12_number_18 : decode cX12_number 18 = .ok (.invokestatic 513, 3) := by decide +kernel
theorem dX12_number_21 : decode cX12_number 21 = .ok (.ifCond .ne 35, 3) := by decide +kernel
theorem dX12_number_24 : decode cX12_number 24 = .ok (.aload_n 0, 1) := by decide +kernel
theorem dX12_number_25 : decode cX12_number 25 = .ok (.iload_n 2, 1) := by decide +kernel
theorem dX12_number_26 : decode cX12_number 26 = .ok (.invokevirtual 505, 3) := by decide +kernel
theorem dX12_number_29 : decode cX12_number 29 = .ok (.bipush 46, 2) := by decide +kernel
theorem dX12_number_31 : decode cX12_number 31 = .ok (.if_icmp .eq 25, 3) := by decide +kernel
theorem dX12_number_34 : decode cX12_number 34 = .ok (.aload_n 0, 1) := by decide +kernel
theorem dX12_number_35 : decode cX12_number 35 = .ok (.iload_n 2, 1) := by decide +kernel
theorem dX12_number_36 : decode cX12_number 36 = .ok (.invokevirtual 505, 3) := by decide +kernel
theorem dX12_number_39 : decode cX12_number 39 = .ok (.bipush 45, 2) := by decide +kernel
theorem dX12_number_41 : decode cX12_number 41 = .ok (.if_icmp .ne 21, 3) := by decide +kernel
theorem dX12_number_44 : decode cX12_number 44 = .ok (.aload_n 0, 1) := by decide +kernel
theorem dX12_number_45 : decode cX12_number 45 = .ok (.iload_n 2, 1) := by decide +kernel
theorem dX12_number_46 : decode cX12_number 46 = .ok (.iconst 1, 1) := by decide +kernel
theorem dX12_number_47 : decode cX12_number 47 = .ok (.isub, 1) := by decide +kernel
theorem dX12_number_48 : decode cX12_number 48 = .ok (.invokevirtual 505, 3) := by decide +kernel
theorem dX12_number_51 : decode cX12_number 51 = .ok (.bipush 112, 2) := by decide +kernel
theorem dX12_number_53 : decode cX12_number 53 = .ok (.if_icmp .ne 9, 3) := by decide +kernel
theorem dX12_number_56 : decode cX12_number 56 = .ok (.iinc 2 1, 3) := by decide +kernel
theorem dX12_number_59 : decode cX12_number 59 = .ok (.goto (-57), 3) := by decide +kernel
theorem dX12_number_62 : decode cX12_number 62 = .ok (.iload_n 1, 1) := by decide +kernel
theorem dX12_number_63 : decode cX12_number 63 = .ok (.istore_n 3, 1) := by decide +kernel
theorem dX12_number_64 : decode cX12_number 64 = .ok (.iconst 0, 1) := by decide +kernel
theorem dX12_number_65 : decode cX12_number 65 = .ok (.istore 4, 2) := by decide +kernel
theorem dX12_number_67 : decode cX12_number 67 = .ok (.iconst 0, 1) := by decide +kernel
theorem dX12_number_68 : decode cX12_number 68 = .ok (.istore 5, 2) := by decide +kernel
theorem dX12_number_70 : decode cX12_number 70 = .ok (.iconst 0, 1) := by decide +kernel
theorem dX12_number_71 : decode cX12_number 71 = .ok (.istore 6, 2) := by decide +kernel
theorem dX12_number_73 : decode cX12_number 73 = .ok (.iconst 0, 1) := by decide +kernel
theorem dX12_number_74 : decode cX12_number 74 = .ok (.istore 7, 2) := by decide +kernel
theorem dX12_number_76 : decode cX12_number 76 = .ok (.lconst 0, 1) := by decide +kernel
theorem dX12_number_77 : decode cX12_number 77 = .ok (.lstore 8, 2) := by decide +kernel
theorem dX12_number_79 : decode cX12_number 79 = .ok (.aload_n 0, 1) := by decide +kernel
theorem dX12_number_80 : decode cX12_number 80 = .ok (.iload_n 3, 1) := by decide +kernel
theorem dX12_number_81 : decode cX12_number 81 = .ok (.invokevirtual 505, 3) := by decide +kernel
theorem dX12_number_84 : decode cX12_number 84 = .ok (.invokestatic 520, 3) := by decide +kernel
theorem dX12_number_87 : decode cX12_number 87 = .ok (.ifCond .ne 18, 3) := by decide +kernel
theorem dX12_number_90 : decode cX12_number 90 = .ok (.aload_n 0, 1) := by decide +kernel
theorem dX12_number_91 : decode cX12_number 91 = .ok (.iload_n 3, 1) := by decide +kernel
theorem dX12_number_92 : decode cX12_number 92 = .ok (.invokevirtual 505, 3) := by decide +kernel
theorem dX12_number_95 : decode cX12_number 95 = .ok (.bipush 46, 2) := by decide +kernel
theorem dX12_number_97 : decode cX12_number 97 = .ok (.if_icmp .ne 114, 3) := by decide +kernel
theorem dX12_number_100 : decode cX12_number 100 = .ok (.iload 6, 2) := by decide +kernel
theorem dX12_number_102 : decode cX12_number 102 = .ok (.ifCond .ne 109, 3) := by decide +kernel
theorem dX12_number_105 : decode cX12_number 105 = .ok (.aload_n 0, 1) := by decide +kernel
theorem dX12_number_106 : decode cX12_number 106 = .ok (.iload_n 3, 1) := by decide +kernel
theorem dX12_number_107 : decode cX12_number 107 = .ok (.invokevirtual 505, 3) := by decide +kernel
theorem dX12_number_110 : decode cX12_number 110 = .ok (.bipush 46, 2) := by decide +kernel
theorem dX12_number_112 : decode cX12_number 112 = .ok (.if_icmp .ne 26, 3) := by decide +kernel
theorem dX12_number_115 : decode cX12_number 115 = .ok (.iconst 1, 1) := by decide +kernel
theorem dX12_number_116 : decode cX12_number 116 = .ok (.istore 6, 2) := by decide +kernel
theorem dX12_number_118 : decode cX12_number 118 = .ok (.iinc 3 1, 3) := by decide +kernel
theorem dX12_number_121 : decode cX12_number 121 = .ok (.aload_n 0, 1) := by decide +kernel
theorem dX12_number_122 : decode cX12_number 122 = .ok (.iload_n 3, 1) := by decide +kernel
theorem dX12_number_123 : decode cX12_number 123 = .ok (.invokevirtual 505, 3) := by decide +kernel
theorem dX12_number_126 : decode cX12_number 126 = .ok (.invokestatic 520, 3) := by decide +kernel
theorem dX12_number_129 : decode cX12_number 129 = .ok (.ifCond .ne (-50), 3) := by decide +kernel
theorem dX12_number_132 : decode cX12_number 132 = .ok (.iconst 1, 1) := by decide +kernel
theorem dX12_number_133 : decode cX12_number 133 = .ok (.istore 7, 2) := by decide +kernel
theorem dX12_number_135 : decode cX12_number 135 = .ok (.goto (-56), 3) := by decide +kernel
theorem dX12_number_138 : decode cX12_number 138 = .ok (.aload_n 0, 1) := by decide +kernel
theorem dX12_number_139 : decode cX12_number 139 = .ok (.iload_n 3, 1) := by decide +kernel
theorem dX12_number_140 : decode cX12_number 140 = .ok (.invokevirtual 505, 3) := by decide +kernel
theorem dX12_number_143 : decode cX12_number 143 = .ok (.bipush 48, 2) := by decide +kernel
theorem dX12_number_145 : decode cX12_number 145 = .ok (.isub, 1) := by decide +kernel
theorem dX12_number_146 : decode cX12_number 146 = .ok (.istore 10, 2) := by decide +kernel
theorem dX12_number_148 : decode cX12_number 148 = .ok (.iload 7, 2) := by decide +kernel
theorem dX12_number_150 : decode cX12_number 150 = .ok (.ifCond .ne 20, 3) := by decide +kernel
theorem dX12_number_153 : decode cX12_number 153 = .ok (.lload 8, 2) := by decide +kernel
theorem dX12_number_155 : decode cX12_number 155 = .ok (.ldc2_w 424, 3) := by decide +kernel
theorem dX12_number_158 : decode cX12_number 158 = .ok (.iload 10, 2) := by decide +kernel
theorem dX12_number_160 : decode cX12_number 160 = .ok (.i2l, 1) := by decide +kernel
theorem dX12_number_161 : decode cX12_number 161 = .ok (.lsub, 1) := by decide +kernel
theorem dX12_number_162 : decode cX12_number 162 = .ok (.ldc2_w 529, 3) := by decide +kernel
theorem dX12_number_165 : decode cX12_number 165 = .ok (.ldiv, 1) := by decide +kernel
theorem dX12_number_166 : decode cX12_number 166 = .ok (.lcmp, 1) := by decide +kernel
theorem dX12_number_167 : decode cX12_number 167 = .ok (.ifCond .le 7, 3) := by decide +kernel
theorem dX12_number_170 : decode cX12_number 170 = .ok (.iconst 1, 1) := by decide +kernel
theorem dX12_number_171 : decode cX12_number 171 = .ok (.goto 4, 3) := by decide +kernel
theorem dX12_number_174 : decode cX12_number 174 = .ok (.iconst 0, 1) := by decide +kernel
theorem dX12_number_175 : decode cX12_number 175 = .ok (.istore 7, 2) := by decide +kernel
theorem dX12_number_177 : decode cX12_number 177 = .ok (.iload 7, 2) := by decide +kernel
theorem dX12_number_179 : decode cX12_number 179 = .ok (.ifCond .ne 15, 3) := by decide +kernel
theorem dX12_number_182 : decode cX12_number 182 = .ok (.ldc2_w 529, 3) := by decide +kernel
theorem dX12_number_185 : decode cX12_number 185 = .ok (.lload 8, 2) := by decide +kernel
theorem dX12_number_187 : decode cX12_number 187 = .ok (.lmul, 1) := by decide +kernel
theorem dX12_number_188 : decode cX12_number 188 = .ok (.iload 10, 2) := by decide +kernel
theorem dX12_number_190 : decode cX12_number 190 = .ok (.i2l, 1) := by decide +kernel
theorem dX12_number_191 : decode cX12_number 191 = .ok (.ladd, 1) := by decide +kernel
theorem dX12_number_192 : decode cX12_number 192 = .ok (.lstore 8, 2) := by decide +kernel
theorem dX12_number_194 : decode cX12_number 194 = .ok (.iinc 4 1, 3) := by decide +kernel
theorem dX12_number_197 : decode cX12_number 197 = .ok (.iload 6, 2) := by decide +kernel
theorem dX12_number_199 : decode cX12_number 199 = .ok (.ifCond .eq 6, 3) := by decide +kernel
theorem dX12_number_202 : decode cX12_number 202 = .ok (.iinc 5 1, 3) := by decide +kernel
theorem dX12_number_205 : decode cX12_number 205 = .ok (.iinc 3 1, 3) := by decide +kernel
theorem dX12_number_208 : decode cX12_number 208 = .ok (.goto (-129), 3) := by decide +kernel
theorem dX12_number_211 : decode cX12_number 211 = .ok (.aload_n 0, 1) := by decide +kernel
theorem dX12_number_212 : decode cX12_number 212 = .ok (.iload_n 3, 1) := by decide +kernel
theorem dX12_number_213 : decode cX12_number 213 = .ok (.invokevirtual 505, 3) := by decide +kernel
theorem dX12_number_216 : decode cX12_number 216 = .ok (.bipush 112, 2) := by decide +kernel
theorem dX12_number_218 : decode cX12_number 218 = .ok (.if_icmp .ne 7, 3) := by decide +kernel
theorem dX12_number_221 : decode cX12_number 221 = .ok (.iconst 1, 1) := by decide +kernel
theorem dX12_number_222 : decode cX12_number 222 = .ok (.goto 4, 3) := by decide +kernel
theorem dX12_number_225 : decode cX12_number 225 = .ok (.iconst 0, 1) := by decide +kernel
theorem dX12_number_226 : decode cX12_number 226 = .ok (.istore 10, 2) := by decide +kernel
theorem dX12_number_228 : decode cX12_number 228 = .ok (.iconst 0, 1) := by decide +kernel
theorem dX12_number_229 : decode cX12_number 229 = .ok (.istore 11, 2) := by decide +kernel
theorem dX12_number_231 : decode cX12_number 231 = .ok (.iload 10, 2) := by decide +kernel
theorem dX12_number_233 : decode cX12_number 233 = .ok (.ifCond .eq 121, 3) := by decide +kernel
theorem dX12_number_236 : decode cX12_number 236 = .ok (.iinc 3 1, 3) := by decide +kernel
theorem dX12_number_239 : decode cX12_number 239 = .ok (.aload_n 0, 1) := by decide +kernel
theorem dX12_number_240 : decode cX12_number 240 = .ok (.iload_n 3, 1) := by decide +kernel
theorem dX12_number_241 : decode cX12_number 241 = .ok (.invokevirtual 505, 3) := by decide +kernel
theorem dX12_number_244 : decode cX12_number 244 = .ok (.bipush 45, 2) := by decide +kernel
theorem dX12_number_246 : decode cX12_number 246 = .ok (.if_icmp .ne 7, 3) := by decide +kernel
theorem dX12_number_249 : decode cX12_number 249 = .ok (.iconst 1, 1) := by decide +kernel
theorem dX12_number_250 : decode cX12_number 250 = .ok (.goto 4, 3) := by decide +kernel
theorem dX12_number_253 : decode cX12_number 253 = .ok (.iconst 0, 1) := by decide +kernel
theorem dX12_number_254 : decode cX12_number 254 = .ok (.istore 12, 2) := by decide +kernel
theorem dX12_number_256 : decode cX12_number 256 = .ok (.iload 12, 2) := by decide +kernel
theorem dX12_number_258 : decode cX12_number 258 = .ok (.ifCond .eq 6, 3) := by decide +kernel
theorem dX12_number_261 : decode cX12_number 261 = .ok (.iinc 3 1, 3) := by decide +kernel
theorem dX12_number_264 : decode cX12_number 264 = .ok (.aload_n 0, 1) := by decide +kernel
theorem dX12_number_265 : decode cX12_number 265 = .ok (.iload_n 3, 1) := by decide +kernel
theorem dX12_number_266 : decode cX12_number 266 = .ok (.invokevirtual 505, 3) := by decide +kernel
theorem dX12_number_269 : decode cX12_number 269 = .ok (.invokestatic 520, 3) := by decide +kernel
theorem dX12_number_272 : decode cX12_number 272 = .ok (.ifCond .ne 6, 3) := by decide +kernel
theorem dX12_number_275 : decode cX12_number 275 = .ok (.iconst 1, 1) := by decide +kernel
theorem dX12_number_276 : decode cX12_number 276 = .ok (.istore 7, 2) := by decide +kernel
theorem dX12_number_278 : decode cX12_number 278 = .ok (.aload_n 0, 1) := by decide +kernel
theorem dX12_number_279 : decode cX12_number 279 = .ok (.iload_n 3, 1) := by decide +kernel
theorem dX12_number_280 : decode cX12_number 280 = .ok (.invokevirtual 505, 3) := by decide +kernel
theorem dX12_number_283 : decode cX12_number 283 = .ok (.invokestatic 520, 3) := by decide +kernel
theorem dX12_number_286 : decode cX12_number 286 = .ok (.ifCond .eq 38, 3) := by decide +kernel
theorem dX12_number_289 : decode cX12_number 289 = .ok (.iload 11, 2) := by decide +kernel
theorem dX12_number_291 : decode cX12_number 291 = .ok (.sipush 2000, 3) := by decide +kernel
theorem dX12_number_294 : decode cX12_number 294 = .ok (.if_icmp .le 8, 3) := by decide +kernel
theorem dX12_number_297 : decode cX12_number 297 = .ok (.iload 11, 2) := by decide +kernel
theorem dX12_number_299 : decode cX12_number 299 = .ok (.goto 17, 3) := by decide +kernel
theorem dX12_number_302 : decode cX12_number 302 = .ok (.bipush 10, 2) := by decide +kernel
theorem dX12_number_304 : decode cX12_number 304 = .ok (.iload 11, 2) := by decide +kernel
theorem dX12_number_306 : decode cX12_number 306 = .ok (.imul, 1) := by decide +kernel
theorem dX12_number_307 : decode cX12_number 307 = .ok (.aload_n 0, 1) := by decide +kernel
theorem dX12_number_308 : decode cX12_number 308 = .ok (.iload_n 3, 1) := by decide +kernel
theorem dX12_number_309 : decode cX12_number 309 = .ok (.invokevirtual 505, 3) := by decide +kernel
theorem dX12_number_312 : decode cX12_number 312 = .ok (.iadd, 1) := by decide +kernel
theorem dX12_number_313 : decode cX12_number 313 = .ok (.bipush 48, 2) := by decide +kernel
theorem dX12_number_315 : decode cX12_number 315 = .ok (.isub, 1) := by decide +kernel
theorem dX12_number_316 : decode cX12_number 316 = .ok (.istore 11, 2) := by decide +kernel
theorem dX12_number_318 : decode cX12_number 318 = .ok (.iinc 3 1, 3) := by decide +kernel
theorem dX12_number_321 : decode cX12_number 321 = .ok (.goto (-43), 3) := by decide +kernel
theorem dX12_number_324 : decode cX12_number 324 = .ok (.iload 7, 2) := by decide +kernel
theorem dX12_number_326 : decode cX12_number 326 = .ok (.ifCond .ne 11, 3) := by decide +kernel
theorem dX12_number_329 : decode cX12_number 329 = .ok (.iload 11, 2) := by decide +kernel
theorem dX12_number_331 : decode cX12_number 331 = .ok (.sipush 1100, 3) := by decide +kernel
theorem dX12_number_334 : decode cX12_number 334 = .ok (.if_icmp .le 7, 3) := by decide +kernel
theorem dX12_number_337 : decode cX12_number 337 = .ok (.iconst 1, 1) := by decide +kernel
theorem dX12_number_338 : decode cX12_number 338 = .ok (.goto 4, 3) := by decide +kernel
theorem dX12_number_341 : decode cX12_number 341 = .ok (.iconst 0, 1) := by decide +kernel
theorem dX12_number_342 : decode cX12_number 342 = .ok (.istore 7, 2) := by decide +kernel
theorem dX12_number_344 : decode cX12_number 344 = .ok (.iload 12, 2) := by decide +kernel
theorem dX12_number_346 : decode cX12_number 346 = .ok (.ifCond .eq 8, 3) := by decide +kernel
theorem dX12_number_349 : decode cX12_number 349 = .ok (.iload 11, 2) := by decide +kernel
theorem dX12_number_351 : decode cX12_number 351 = .ok (.ineg, 1) := by decide +kernel
theorem dX12_number_352 : decode cX12_number 352 = .ok (.istore 11, 2) := by decide +kernel
theorem dX12_number_354 : decode cX12_number 354 = .ok (.iload 6, 2) := by decide +kernel
theorem dX12_number_356 : decode cX12_number 356 = .ok (.ifCond .ne 8, 3) := by decide +kernel
theorem dX12_number_359 : decode cX12_number 359 = .ok (.iload 10, 2) := by decide +kernel
theorem dX12_number_361 : decode cX12_number 361 = .ok (.ifCond .eq 8, 3) := by decide +kernel
theorem dX12_number_364 : decode cX12_number 364 = .ok (.bipush 7, 2) := by decide +kernel
theorem dX12_number_366 : decode cX12_number 366 = .ok (.goto 4, 3) := by decide +kernel
theorem dX12_number_369 : decode cX12_number 369 = .ok (.iconst 4, 1) := by decide +kernel
theorem dX12_number_370 : decode cX12_number 370 = .ok (.istore 12, 2) := by decide +kernel
theorem dX12_number_372 : decode cX12_number 372 = .ok (.aload_n 0, 1) := by decide +kernel
theorem dX12_number_373 : decode cX12_number 373 = .ok (.iload_n 3, 1) := by decide +kernel
theorem dX12_number_374 : decode cX12_number 374 = .ok (.invokevirtual 505, 3) := by decide +kernel
theorem dX12_number_377 : decode cX12_number 377 = .ok (.bipush 108, 2) := by decide +kernel
theorem dX12_number_379 : decode cX12_number 379 = .ok (.if_icmp .eq 13, 3) := by decide +kernel
theorem dX12_number_382 : decode cX12_number 382 = .ok (.aload_n 0, 1) := by decide +kernel
theorem dX12_number_383 : decode cX12_number 383 = .ok (.iload_n 3, 1) := by decide +kernel
theorem dX12_number_384 : decode cX12_number 384 = .ok (.invokevirtual 505, 3) := by decide +kernel
theorem dX12_number_387 : decode cX12_number 387 = .ok (.bipush 102, 2) := by decide +kernel
theorem dX12_number_389 : decode cX12_number 389 = .ok (.if_icmp .ne 53, 3) := by decide +kernel
theorem dX12_number_392 : decode cX12_number 392 = .ok (.iload 7, 2) := by decide +kernel
theorem dX12_number_394 : decode cX12_number 394 = .ok (.ifCond .ne 20, 3) := by decide +kernel
theorem dX12_number_397 : decode cX12_number 397 = .ok (.aload_n 0, 1) := by decide +kernel
theorem dX12_number_398 : decode cX12_number 398 = .ok (.iload_n 3, 1) := by decide +kernel
theorem dX12_number_399 : decode cX12_number 399 = .ok (.invokevirtual 505, 3) := by decide +kernel
theorem dX12_number_402 : decode cX12_number 402 = .ok (.bipush 108, 2) := by decide +kernel
theorem dX12_number_404 : decode cX12_number 404 = .ok (.if_icmp .ne 14, 3) := by decide +kernel
theorem dX12_number_407 : decode cX12_number 407 = .ok (.iload 12, 2) := by decide +kernel
theorem dX12_number_409 : decode cX12_number 409 = .ok (.bipush 7, 2) := by decide +kernel
theorem dX12_number_411 : decode cX12_number 411 = .ok (.if_icmp .ne 7, 3) := by decide +kernel
theorem dX12_number_414 : decode cX12_number 414 = .ok (.iconst 1, 1) := by decide +kernel
theorem dX12_number_415 : decode cX12_number 415 = .ok (.goto 4, 3) := by decide +kernel
theorem dX12_number_418 : decode cX12_number 418 = .ok (.iconst 0, 1) := by decide +kernel
theorem dX12_number_419 : decode cX12_number 419 = .ok (.istore 7, 2) := by decide +kernel
theorem dX12_number_421 : decode cX12_number 421 = .ok (.aload_n 0, 1) := by decide +kernel
theorem dX12_number_422 : decode cX12_number 422 = .ok (.iload_n 3, 1) := by decide +kernel
theorem dX12_number_423 : decode cX12_number 423 = .ok (.invokevirtual 505, 3) := by decide +kernel
theorem dX12_number_426 : decode cX12_number 426 = .ok (.bipush 108, 2) := by decide +kernel
theorem dX12_number_428 : decode cX12_number 428 = .ok (.if_icmp .ne 7, 3) := by decide +kernel
theorem dX12_number_431 : decode cX12_number 431 = .ok (.iconst 5, 1) := by decide +kernel
theorem dX12_number_432 : decode cX12_number 432 = .ok (.goto 5, 3) := by decide +kernel
theorem dX12_number_435 : decode cX12_number 435 = .ok (.bipush 6, 2) := by decide +kernel
theorem dX12_number_437 : decode cX12_number 437 = .ok (.istore 12, 2) := by decide +kernel
theorem dX12_number_439 : decode cX12_number 439 = .ok (.iinc 3 1, 3) := by decide +kernel
theorem dX12_number_442 : decode cX12_number 442 = .ok (.iload 12, 2) := by decide +kernel
theorem dX12_number_444 : decode cX12_number 444 = .ok (.invokestatic 462, 3) := by decide +kernel
theorem dX12_number_447 : decode cX12_number 447 = .ok (.istore 13, 2) := by decide +kernel
theorem dX12_number_449 : decode cX12_number 449 = .ok (.iload_n 3, 1) := by decide +kernel
theorem dX12_number_450 : decode cX12_number 450 = .ok (.iload_n 2, 1) := by decide +kernel
theorem dX12_number_451 : decode cX12_number 451 = .ok (.if_icmp .ne 35, 3) := by decide +kernel
theorem dX12_number_454 : decode cX12_number 454 = .ok (.iload 7, 2) := by decide +kernel
theorem dX12_number_456 : decode cX12_number 456 = .ok (.ifCond .ne 30, 3) := by decide +kernel
theorem dX12_number_459 : decode cX12_number 459 = .ok (.iload 13, 2) := by decide +kernel
theorem dX12_number_461 : decode cX12_number 461 = .ok (.ifCond .eq 10, 3) := by decide +kernel
theorem dX12_number_464 : decode cX12_number 464 = .ok (.iload 4, 2) := by decide +kernel
theorem dX12_number_466 : decode cX12_number 466 = .ok (.bipush 15, 2) := by decide +kernel
theorem dX12_number_468 : decode cX12_number 468 = .ok (.if_icmp .gt 18, 3) := by decide +kernel
theorem dX12_number_471 : decode cX12_number 471 = .ok (.iload 12, 2) := by decide +kernel
theorem dX12_number_473 : decode cX12_number 473 = .ok (.iconst 4, 1) := by decide +kernel
theorem dX12_number_474 : decode cX12_number 474 = .ok (.if_icmp .ne 20, 3) := by decide +kernel
theorem dX12_number_477 : decode cX12_number 477 = .ok (.lload 8, 2) := by decide +kernel
theorem dX12_number_479 : decode cX12_number 479 = .ok (.ldc2_w 436, 3) := by decide +kernel
theorem dX12_number_482 : decode cX12_number 482 = .ok (.lcmp, 1) := by decide +kernel
theorem dX12_number_483 : decode cX12_number 483 = .ok (.ifCond .le 11, 3) := by decide +kernel
theorem dX12_number_486 : decode cX12_number 486 = .ok (.aload_n 0, 1) := by decide +kernel
theorem dX12_number_487 : decode cX12_number 487 = .ok (.iconst 1, 1) := by decide +kernel
theorem dX12_number_488 : decode cX12_number 488 = .ok (.iload_n 1, 1) := by decide +kernel
theorem dX12_number_489 : decode cX12_number 489 = .ok (.iload_n 2, 1) := by decide +kernel
theorem dX12_number_490 : decode cX12_number 490 = .ok (.invokevirtual 509, 3) := by decide +kernel
theorem dX12_number_493 : decode cX12_number 493 = .ok (.return_, 1) := by decide +kernel
theorem dX12_number_494 : decode cX12_number 494 = .ok (.lload 8, 2) := by decide +kernel
theorem dX12_number_496 : decode cX12_number 496 = .ok (.lstore 14, 2) := by decide +kernel
theorem dX12_number_498 : decode cX12_number 498 = .ok (.iload 13, 2) := by decide +kernel
theorem dX12_number_500 : decode cX12_number 500 = .ok (.ifCond .eq 17, 3) := by decide +kernel
theorem dX12_number_503 : decode cX12_number 503 = .ok (.aload_n 0, 1) := by decide +kernel
theorem dX12_number_504 : decode cX12_number 504 = .ok (.lload 8, 2) := by decide +kernel
theorem dX12_number_506 : decode cX12_number 506 = .ok (.iload 5, 2) := by decide +kernel
theorem dX12_number_508 : decode cX12_number 508 = .ok (.iload 11, 2) := by decide +kernel
theorem dX12_number_510 : decode cX12_number 510 = .ok (.iload 12, 2) := by decide +kernel
theorem dX12_number_512 : decode cX12_number 512 = .ok (.invokevirtual 531, 3) := by decide +kernel
theorem dX12_number_515 : decode cX12_number 515 = .ok (.lstore 14, 2) := by decide +kernel
theorem dX12_number_517 : decode cX12_number 517 = .ok (.lload 14, 2) := by decide +kernel
theorem dX12_number_519 : decode cX12_number 519 = .ok (.ldc2_w 424, 3) := by decide +kernel
theorem dX12_number_522 : decode cX12_number 522 = .ok (.lcmp, 1) := by decide +kernel
theorem dX12_number_523 : decode cX12_number 523 = .ok (.ifCond .ne 16, 3) := by decide +kernel
theorem dX12_number_526 : decode cX12_number 526 = .ok (.iload 13, 2) := by decide +kernel
theorem dX12_number_528 : decode cX12_number 528 = .ok (.ifCond .eq 11, 3) := by decide +kernel
theorem dX12_number_531 : decode cX12_number 531 = .ok (.aload_n 0, 1) := by decide +kernel
theorem dX12_number_532 : decode cX12_number 532 = .ok (.iconst 1, 1) := by decide +kernel
theorem dX12_number_533 : decode cX12_number 533 = .ok (.iload_n 1, 1) := by decide +kernel
theorem dX12_number_534 : decode cX12_number 534 = .ok (.iload_n 2, 1) := by decide +kernel
theorem dX12_number_535 : decode cX12_number 535 = .ok (.invokevirtual 509, 3) := by decide +kernel
theorem dX12_number_538 : decode cX12_number 538 = .ok (.return_, 1) := by decide +kernel
theorem dX12_number_539 : decode cX12_number 539 = .ok (.aload_n 0, 1) := by decide +kernel
theorem dX12_number_540 : decode cX12_number 540 = .ok (.getfield 92, 3) := by decide +kernel
theorem dX12_number_543 : decode cX12_number 543 = .ok (.aload_n 0, 1) := by decide +kernel
theorem dX12_number_544 : decode cX12_number 544 = .ok (.getfield 79, 3) := by decide +kernel
theorem dX12_number_547 : decode cX12_number 547 = .ok (.lload 14, 2) := by decide +kernel
theorem dX12_number_549 : decode cX12_number 549 = .ok (.lastore, 1) := by decide +kernel
theorem dX12_number_550 : decode cX12_number 550 = .ok (.aload_n 0, 1) := by decide +kernel
theorem dX12_number_551 : decode cX12_number 551 = .ok (.getfield 95, 3) := by decide +kernel
theorem dX12_number_554 : decode cX12_number 554 = .ok (.aload_n 0, 1) := by decide +kernel
theorem dX12_number_555 : decode cX12_number 555 = .ok (.getfield 79, 3) := by decide +kernel
theorem dX12_number_558 : decode cX12_number 558 = .ok (.iload 12, 2) := by decide +kernel
theorem dX12_number_560 : decode cX12_number 560 = .ok (.iastore, 1) := by decide +kernel
theorem dX12_number_561 : decode cX12_number 561 = .ok (.aload_n 0, 1) := by decide +kernel
theorem dX12_number_562 : decode cX12_number 562 = .ok (.iconst 3, 1) := by decide +kernel
theorem dX12_number_563 : decode cX12_number 563 = .ok (.iload_n 1, 1) := by decide +kernel
theorem dX12_number_564 : decode cX12_number 564 = .ok (.iload_n 2, 1) := by decide +kernel
theorem dX12_number_565 : decode cX12_number 565 = .ok (.invokevirtual 509, 3) := by decide +kernel
theorem dX12_number_568 : decode cX12_number 568 = .ok (.return_, 1) := by decide +kernel
abbrev R_X12_number : Room := ({ frames := 5, cells := 0, slots := 0, locals := 133 } : Room)
def b_X12_number_56 (n : Nat) (rec : (Gs → Int32 → Int32 → Option (Gs)) × (Gs → Int32 → Int32 → Int32 → Int32 → Int32 → Int32 → Int32 → Int64 → Option (Gs)) × (Gs → Int32 → Int32 → Int32 → Int32 → Int32 → Int32 → Int32 → Int64 → Int32 → Int32 → Int32 → Option (Gs))) (gT : Gs) (v1 : Int32) (v2 : Int32) : Option (Gs) :=
  rec.1 gT v1 (v2 + (1 : Int32))
def b_X12_number_205 (n : Nat) (rec : (Gs → Int32 → Int32 → Option (Gs)) × (Gs → Int32 → Int32 → Int32 → Int32 → Int32 → Int32 → Int32 → Int64 → Option (Gs)) × (Gs → Int32 → Int32 → Int32 → Int32 → Int32 → Int32 → Int32 → Int64 → Int32 → Int32 → Int32 → Option (Gs))) (gT : Gs) (v1 : Int32) (v2 : Int32) (v3 : Int32) (v4 : Int32) (v5 : Int32) (v6 : Int32) (v7 : Int32) (v8 : Int64) : Option (Gs) :=
  rec.2.1 gT v1 v2 (v3 + (1 : Int32)) v4 v5 v6 v7 v8
def b_X12_number_194 (n : Nat) (rec : (Gs → Int32 → Int32 → Option (Gs)) × (Gs → Int32 → Int32 → Int32 → Int32 → Int32 → Int32 → Int32 → Int64 → Option (Gs)) × (Gs → Int32 → Int32 → Int32 → Int32 → Int32 → Int32 → Int32 → Int64 → Int32 → Int32 → Int32 → Option (Gs))) (gT : Gs) (v1 : Int32) (v2 : Int32) (v3 : Int32) (v4 : Int32) (v5 : Int32) (v6 : Int32) (v7 : Int32) (v8 : Int64) : Option (Gs) :=
  if v6 = 0 then (b_X12_number_205 n rec gT v1 v2 v3 (v4 + (1 : Int32)) v5 v6 v7 v8) else (b_X12_number_205 n rec gT v1 v2 v3 (v4 + (1 : Int32)) (v5 + (1 : Int32)) v6 v7 v8)
def b_X12_number_175 (n : Nat) (rec : (Gs → Int32 → Int32 → Option (Gs)) × (Gs → Int32 → Int32 → Int32 → Int32 → Int32 → Int32 → Int32 → Int64 → Option (Gs)) × (Gs → Int32 → Int32 → Int32 → Int32 → Int32 → Int32 → Int32 → Int64 → Int32 → Int32 → Int32 → Option (Gs))) (gT : Gs) (v1 : Int32) (v2 : Int32) (v3 : Int32) (v4 : Int32) (v5 : Int32) (v6 : Int32) (v8 : Int64) (v10 : Int32) (s0 : Int32) : Option (Gs) :=
  if s0 = 0 then (b_X12_number_194 n rec gT v1 v2 v3 v4 v5 v6 s0 (((10 : Int64) * v8) + v10.toInt64)) else (b_X12_number_194 n rec gT v1 v2 v3 v4 v5 v6 s0 v8)
def b_X12_number_170 (n : Nat) (rec : (Gs → Int32 → Int32 → Option (Gs)) × (Gs → Int32 → Int32 → Int32 → Int32 → Int32 → Int32 → Int32 → Int64 → Option (Gs)) × (Gs → Int32 → Int32 → Int32 → Int32 → Int32 → Int32 → Int32 → Int64 → Int32 → Int32 → Int32 → Option (Gs))) (gT : Gs) (v1 : Int32) (v2 : Int32) (v3 : Int32) (v4 : Int32) (v5 : Int32) (v6 : Int32) (v8 : Int64) (v10 : Int32) : Option (Gs) :=
  b_X12_number_175 n rec gT v1 v2 v3 v4 v5 v6 v8 v10 (1 : Int32)
def b_X12_number_105 (n : Nat) (rec : (Gs → Int32 → Int32 → Option (Gs)) × (Gs → Int32 → Int32 → Int32 → Int32 → Int32 → Int32 → Int32 → Int64 → Option (Gs)) × (Gs → Int32 → Int32 → Int32 → Int32 → Int32 → Int32 → Int32 → Int64 → Int32 → Int32 → Int32 → Option (Gs))) (gT : Gs) (v1 : Int32) (v2 : Int32) (v3 : Int32) (v4 : Int32) (v5 : Int32) (v6 : Int32) (v7 : Int32) (v8 : Int64) : Option (Gs) :=
  bnd (f_X12_at gT v3) (fun q_17 => if q_17 = (46 : Int32) then (bnd (f_X12_at gT (v3 + (1 : Int32))) (fun q_21 => bnd (f_X12_isDigit q_21) (fun q_23 => if q_23 = 0 then (rec.2.1 gT v1 v2 (v3 + (1 : Int32)) v4 v5 (1 : Int32) (1 : Int32) v8) else (rec.2.1 gT v1 v2 (v3 + (1 : Int32)) v4 v5 (1 : Int32) v7 v8)))) else (bnd (f_X12_at gT v3) (fun q_19 => if v7 = 0 then (if v8 ≤ (((9223372036854775807 : Int64) - ((q_19 - (48 : Int32)).toInt64)) / (10 : Int64)) then (b_X12_number_175 n rec gT v1 v2 v3 v4 v5 v6 v8 (q_19 - (48 : Int32)) (0 : Int32)) else (b_X12_number_170 n rec gT v1 v2 v3 v4 v5 v6 v8 (q_19 - (48 : Int32)))) else (b_X12_number_170 n rec gT v1 v2 v3 v4 v5 v6 v8 (q_19 - (48 : Int32))))))
def b_X12_number_486 (n : Nat) (rec : (Gs → Int32 → Int32 → Option (Gs)) × (Gs → Int32 → Int32 → Int32 → Int32 → Int32 → Int32 → Int32 → Int64 → Option (Gs)) × (Gs → Int32 → Int32 → Int32 → Int32 → Int32 → Int32 → Int32 → Int64 → Int32 → Int32 → Int32 → Option (Gs))) (gT : Gs) (v1 : Int32) (v2 : Int32) : Option (Gs) :=
  bnd (f_X12_token gT (1 : Int32) v1 v2) (fun q_35 => some q_35)
def b_X12_number_539 (n : Nat) (rec : (Gs → Int32 → Int32 → Option (Gs)) × (Gs → Int32 → Int32 → Int32 → Int32 → Int32 → Int32 → Int32 → Int64 → Option (Gs)) × (Gs → Int32 → Int32 → Int32 → Int32 → Int32 → Int32 → Int32 → Int64 → Int32 → Int32 → Int32 → Option (Gs))) (gT : Gs) (v1 : Int32) (v2 : Int32) (v12 : Int32) (v14 : Int64) : Option (Gs) :=
  grd (inB (gI gT 8) 3001) (grd (inB (gI gT 8) 3001) (bnd (f_X12_token (sIA (sLA gT 12 (vp_updL (gLA gT 12) (gI gT 8).toNatClampNeg v14)) 13 (upd (gIA gT 13) (gI gT 8).toNatClampNeg v12)) (3 : Int32) v1 v2) (fun q_39 => some q_39)))
def b_X12_number_517 (n : Nat) (rec : (Gs → Int32 → Int32 → Option (Gs)) × (Gs → Int32 → Int32 → Int32 → Int32 → Int32 → Int32 → Int32 → Int64 → Option (Gs)) × (Gs → Int32 → Int32 → Int32 → Int32 → Int32 → Int32 → Int32 → Int64 → Int32 → Int32 → Int32 → Option (Gs))) (gT : Gs) (v1 : Int32) (v2 : Int32) (v12 : Int32) (v13 : Int32) (v14 : Int64) : Option (Gs) :=
  if v14 = (9223372036854775807 : Int64) then (if v13 = 0 then (b_X12_number_539 n rec gT v1 v2 v12 v14) else (bnd (f_X12_token gT (1 : Int32) v1 v2) (fun q_41 => some q_41))) else (b_X12_number_539 n rec gT v1 v2 v12 v14)
def b_X12_number_494 (n : Nat) (rec : (Gs → Int32 → Int32 → Option (Gs)) × (Gs → Int32 → Int32 → Int32 → Int32 → Int32 → Int32 → Int32 → Int64 → Option (Gs)) × (Gs → Int32 → Int32 → Int32 → Int32 → Int32 → Int32 → Int32 → Int64 → Int32 → Int32 → Int32 → Option (Gs))) (gT : Gs) (v1 : Int32) (v2 : Int32) (v5 : Int32) (v8 : Int64) (v11 : Int32) (v12 : Int32) (v13 : Int32) : Option (Gs) :=
  if v13 = 0 then (b_X12_number_517 n rec gT v1 v2 v12 v13 v8) else (bnd (f_X12_realOf n gT v8 v5 v11 v12) (fun q_43 => b_X12_number_517 n rec q_43.2 v1 v2 v12 v13 q_43.1))
def b_X12_number_471 (n : Nat) (rec : (Gs → Int32 → Int32 → Option (Gs)) × (Gs → Int32 → Int32 → Int32 → Int32 → Int32 → Int32 → Int32 → Int64 → Option (Gs)) × (Gs → Int32 → Int32 → Int32 → Int32 → Int32 → Int32 → Int32 → Int64 → Int32 → Int32 → Int32 → Option (Gs))) (gT : Gs) (v1 : Int32) (v2 : Int32) (v5 : Int32) (v8 : Int64) (v11 : Int32) (v12 : Int32) (v13 : Int32) : Option (Gs) :=
  if v12 = (4 : Int32) then (if v8 ≤ (2147483647 : Int64) then (b_X12_number_494 n rec gT v1 v2 v5 v8 v11 v12 v13) else (b_X12_number_486 n rec gT v1 v2)) else (b_X12_number_494 n rec gT v1 v2 v5 v8 v11 v12 v13)
def b_X12_number_442 (n : Nat) (rec : (Gs → Int32 → Int32 → Option (Gs)) × (Gs → Int32 → Int32 → Int32 → Int32 → Int32 → Int32 → Int32 → Int64 → Option (Gs)) × (Gs → Int32 → Int32 → Int32 → Int32 → Int32 → Int32 → Int32 → Int64 → Int32 → Int32 → Int32 → Option (Gs))) (gT : Gs) (v1 : Int32) (v2 : Int32) (v3 : Int32) (v4 : Int32) (v5 : Int32) (v7 : Int32) (v8 : Int64) (v11 : Int32) (v12 : Int32) : Option (Gs) :=
  bnd (f_X12_isReal v12) (fun q_33 => if v3 = v2 then (if v7 = 0 then (if q_33 = 0 then (b_X12_number_471 n rec gT v1 v2 v5 v8 v11 v12 q_33) else (if (15 : Int32) < v4 then (b_X12_number_486 n rec gT v1 v2) else (b_X12_number_471 n rec gT v1 v2 v5 v8 v11 v12 q_33))) else (b_X12_number_486 n rec gT v1 v2)) else (b_X12_number_486 n rec gT v1 v2))
def b_X12_number_437 (n : Nat) (rec : (Gs → Int32 → Int32 → Option (Gs)) × (Gs → Int32 → Int32 → Int32 → Int32 → Int32 → Int32 → Int32 → Int64 → Option (Gs)) × (Gs → Int32 → Int32 → Int32 → Int32 → Int32 → Int32 → Int32 → Int64 → Int32 → Int32 → Int32 → Option (Gs))) (gT : Gs) (v1 : Int32) (v2 : Int32) (v3 : Int32) (v4 : Int32) (v5 : Int32) (v7 : Int32) (v8 : Int64) (v11 : Int32) (s0 : Int32) : Option (Gs) :=
  b_X12_number_442 n rec gT v1 v2 (v3 + (1 : Int32)) v4 v5 v7 v8 v11 s0
def b_X12_number_419 (n : Nat) (rec : (Gs → Int32 → Int32 → Option (Gs)) × (Gs → Int32 → Int32 → Int32 → Int32 → Int32 → Int32 → Int32 → Int64 → Option (Gs)) × (Gs → Int32 → Int32 → Int32 → Int32 → Int32 → Int32 → Int32 → Int64 → Int32 → Int32 → Int32 → Option (Gs))) (gT : Gs) (v1 : Int32) (v2 : Int32) (v3 : Int32) (v4 : Int32) (v5 : Int32) (v8 : Int64) (v11 : Int32) (s0 : Int32) : Option (Gs) :=
  bnd (f_X12_at gT v3) (fun q_31 => if q_31 = (108 : Int32) then (b_X12_number_437 n rec gT v1 v2 v3 v4 v5 s0 v8 v11 (5 : Int32)) else (b_X12_number_437 n rec gT v1 v2 v3 v4 v5 s0 v8 v11 (6 : Int32)))
def b_X12_number_414 (n : Nat) (rec : (Gs → Int32 → Int32 → Option (Gs)) × (Gs → Int32 → Int32 → Int32 → Int32 → Int32 → Int32 → Int32 → Int64 → Option (Gs)) × (Gs → Int32 → Int32 → Int32 → Int32 → Int32 → Int32 → Int32 → Int64 → Int32 → Int32 → Int32 → Option (Gs))) (gT : Gs) (v1 : Int32) (v2 : Int32) (v3 : Int32) (v4 : Int32) (v5 : Int32) (v8 : Int64) (v11 : Int32) : Option (Gs) :=
  b_X12_number_419 n rec gT v1 v2 v3 v4 v5 v8 v11 (1 : Int32)
def b_X12_number_418 (n : Nat) (rec : (Gs → Int32 → Int32 → Option (Gs)) × (Gs → Int32 → Int32 → Int32 → Int32 → Int32 → Int32 → Int32 → Int64 → Option (Gs)) × (Gs → Int32 → Int32 → Int32 → Int32 → Int32 → Int32 → Int32 → Int64 → Int32 → Int32 → Int32 → Option (Gs))) (gT : Gs) (v1 : Int32) (v2 : Int32) (v3 : Int32) (v4 : Int32) (v5 : Int32) (v8 : Int64) (v11 : Int32) : Option (Gs) :=
  b_X12_number_419 n rec gT v1 v2 v3 v4 v5 v8 v11 (0 : Int32)
def b_X12_number_392 (n : Nat) (rec : (Gs → Int32 → Int32 → Option (Gs)) × (Gs → Int32 → Int32 → Int32 → Int32 → Int32 → Int32 → Int32 → Int64 → Option (Gs)) × (Gs → Int32 → Int32 → Int32 → Int32 → Int32 → Int32 → Int32 → Int64 → Int32 → Int32 → Int32 → Option (Gs))) (gT : Gs) (v1 : Int32) (v2 : Int32) (v3 : Int32) (v4 : Int32) (v5 : Int32) (v7 : Int32) (v8 : Int64) (v11 : Int32) (v12 : Int32) : Option (Gs) :=
  if v7 = 0 then (bnd (f_X12_at gT v3) (fun q_45 => if q_45 = (108 : Int32) then (if v12 = (7 : Int32) then (b_X12_number_414 n rec gT v1 v2 v3 v4 v5 v8 v11) else (b_X12_number_418 n rec gT v1 v2 v3 v4 v5 v8 v11)) else (b_X12_number_418 n rec gT v1 v2 v3 v4 v5 v8 v11))) else (b_X12_number_414 n rec gT v1 v2 v3 v4 v5 v8 v11)
def b_X12_number_370 (n : Nat) (rec : (Gs → Int32 → Int32 → Option (Gs)) × (Gs → Int32 → Int32 → Int32 → Int32 → Int32 → Int32 → Int32 → Int64 → Option (Gs)) × (Gs → Int32 → Int32 → Int32 → Int32 → Int32 → Int32 → Int32 → Int64 → Int32 → Int32 → Int32 → Option (Gs))) (gT : Gs) (v1 : Int32) (v2 : Int32) (v3 : Int32) (v4 : Int32) (v5 : Int32) (v7 : Int32) (v8 : Int64) (v11 : Int32) (s0 : Int32) : Option (Gs) :=
  bnd (f_X12_at gT v3) (fun q_29 => if q_29 = (108 : Int32) then (b_X12_number_392 n rec gT v1 v2 v3 v4 v5 v7 v8 v11 s0) else (bnd (f_X12_at gT v3) (fun q_47 => if q_47 = (102 : Int32) then (b_X12_number_392 n rec gT v1 v2 v3 v4 v5 v7 v8 v11 s0) else (b_X12_number_442 n rec gT v1 v2 v3 v4 v5 v7 v8 v11 s0))))
def b_X12_number_364 (n : Nat) (rec : (Gs → Int32 → Int32 → Option (Gs)) × (Gs → Int32 → Int32 → Int32 → Int32 → Int32 → Int32 → Int32 → Int64 → Option (Gs)) × (Gs → Int32 → Int32 → Int32 → Int32 → Int32 → Int32 → Int32 → Int64 → Int32 → Int32 → Int32 → Option (Gs))) (gT : Gs) (v1 : Int32) (v2 : Int32) (v3 : Int32) (v4 : Int32) (v5 : Int32) (v7 : Int32) (v8 : Int64) (v11 : Int32) : Option (Gs) :=
  b_X12_number_370 n rec gT v1 v2 v3 v4 v5 v7 v8 v11 (7 : Int32)
def b_X12_number_354 (n : Nat) (rec : (Gs → Int32 → Int32 → Option (Gs)) × (Gs → Int32 → Int32 → Int32 → Int32 → Int32 → Int32 → Int32 → Int64 → Option (Gs)) × (Gs → Int32 → Int32 → Int32 → Int32 → Int32 → Int32 → Int32 → Int64 → Int32 → Int32 → Int32 → Option (Gs))) (gT : Gs) (v1 : Int32) (v2 : Int32) (v3 : Int32) (v4 : Int32) (v5 : Int32) (v6 : Int32) (v7 : Int32) (v8 : Int64) (v10 : Int32) (v11 : Int32) : Option (Gs) :=
  if v6 = 0 then (if v10 = 0 then (b_X12_number_370 n rec gT v1 v2 v3 v4 v5 v7 v8 v11 (4 : Int32)) else (b_X12_number_364 n rec gT v1 v2 v3 v4 v5 v7 v8 v11)) else (b_X12_number_364 n rec gT v1 v2 v3 v4 v5 v7 v8 v11)
def b_X12_number_342 (n : Nat) (rec : (Gs → Int32 → Int32 → Option (Gs)) × (Gs → Int32 → Int32 → Int32 → Int32 → Int32 → Int32 → Int32 → Int64 → Option (Gs)) × (Gs → Int32 → Int32 → Int32 → Int32 → Int32 → Int32 → Int32 → Int64 → Int32 → Int32 → Int32 → Option (Gs))) (gT : Gs) (v1 : Int32) (v2 : Int32) (v3 : Int32) (v4 : Int32) (v5 : Int32) (v6 : Int32) (v8 : Int64) (v10 : Int32) (v11 : Int32) (v12 : Int32) (s0 : Int32) : Option (Gs) :=
  if v12 = 0 then (b_X12_number_354 n rec gT v1 v2 v3 v4 v5 v6 s0 v8 v10 v11) else (b_X12_number_354 n rec gT v1 v2 v3 v4 v5 v6 s0 v8 v10 (-v11))
def b_X12_number_337 (n : Nat) (rec : (Gs → Int32 → Int32 → Option (Gs)) × (Gs → Int32 → Int32 → Int32 → Int32 → Int32 → Int32 → Int32 → Int64 → Option (Gs)) × (Gs → Int32 → Int32 → Int32 → Int32 → Int32 → Int32 → Int32 → Int64 → Int32 → Int32 → Int32 → Option (Gs))) (gT : Gs) (v1 : Int32) (v2 : Int32) (v3 : Int32) (v4 : Int32) (v5 : Int32) (v6 : Int32) (v8 : Int64) (v10 : Int32) (v11 : Int32) (v12 : Int32) : Option (Gs) :=
  b_X12_number_342 n rec gT v1 v2 v3 v4 v5 v6 v8 v10 v11 v12 (1 : Int32)
def b_X12_number_316 (n : Nat) (rec : (Gs → Int32 → Int32 → Option (Gs)) × (Gs → Int32 → Int32 → Int32 → Int32 → Int32 → Int32 → Int32 → Int64 → Option (Gs)) × (Gs → Int32 → Int32 → Int32 → Int32 → Int32 → Int32 → Int32 → Int64 → Int32 → Int32 → Int32 → Option (Gs))) (gT : Gs) (v1 : Int32) (v2 : Int32) (v3 : Int32) (v4 : Int32) (v5 : Int32) (v6 : Int32) (v7 : Int32) (v8 : Int64) (v10 : Int32) (v12 : Int32) (s0 : Int32) : Option (Gs) :=
  rec.2.2 gT v1 v2 (v3 + (1 : Int32)) v4 v5 v6 v7 v8 v10 s0 v12
def h_X12_number_278 (n : Nat) (rec : (Gs → Int32 → Int32 → Option (Gs)) × (Gs → Int32 → Int32 → Int32 → Int32 → Int32 → Int32 → Int32 → Int64 → Option (Gs)) × (Gs → Int32 → Int32 → Int32 → Int32 → Int32 → Int32 → Int32 → Int64 → Int32 → Int32 → Int32 → Option (Gs))) (gT : Gs) (v1 : Int32) (v2 : Int32) (v3 : Int32) (v4 : Int32) (v5 : Int32) (v6 : Int32) (v7 : Int32) (v8 : Int64) (v10 : Int32) (v11 : Int32) (v12 : Int32) : Option (Gs) :=
  bnd (f_X12_at gT v3) (fun q_55 => bnd (f_X12_isDigit q_55) (fun q_57 => if q_57 = 0 then (if v7 = 0 then (if v11 ≤ (1100 : Int32) then (b_X12_number_342 n rec gT v1 v2 v3 v4 v5 v6 v8 v10 v11 v12 (0 : Int32)) else (b_X12_number_337 n rec gT v1 v2 v3 v4 v5 v6 v8 v10 v11 v12)) else (b_X12_number_337 n rec gT v1 v2 v3 v4 v5 v6 v8 v10 v11 v12)) else (if v11 ≤ (2000 : Int32) then (bnd (f_X12_at gT v3) (fun q_59 => b_X12_number_316 n rec gT v1 v2 v3 v4 v5 v6 v7 v8 v10 v12 ((((10 : Int32) * v11) + q_59) - (48 : Int32)))) else (b_X12_number_316 n rec gT v1 v2 v3 v4 v5 v6 v7 v8 v10 v12 v11))))
def b_X12_number_264 (n : Nat) (rec : (Gs → Int32 → Int32 → Option (Gs)) × (Gs → Int32 → Int32 → Int32 → Int32 → Int32 → Int32 → Int32 → Int64 → Option (Gs)) × (Gs → Int32 → Int32 → Int32 → Int32 → Int32 → Int32 → Int32 → Int64 → Int32 → Int32 → Int32 → Option (Gs))) (gT : Gs) (v1 : Int32) (v2 : Int32) (v3 : Int32) (v4 : Int32) (v5 : Int32) (v6 : Int32) (v7 : Int32) (v8 : Int64) (v10 : Int32) (v11 : Int32) (v12 : Int32) : Option (Gs) :=
  bnd (f_X12_at gT v3) (fun q_51 => bnd (f_X12_isDigit q_51) (fun q_53 => if q_53 = 0 then (rec.2.2 gT v1 v2 v3 v4 v5 v6 (1 : Int32) v8 v10 v11 v12) else (rec.2.2 gT v1 v2 v3 v4 v5 v6 v7 v8 v10 v11 v12)))
def b_X12_number_254 (n : Nat) (rec : (Gs → Int32 → Int32 → Option (Gs)) × (Gs → Int32 → Int32 → Int32 → Int32 → Int32 → Int32 → Int32 → Int64 → Option (Gs)) × (Gs → Int32 → Int32 → Int32 → Int32 → Int32 → Int32 → Int32 → Int64 → Int32 → Int32 → Int32 → Option (Gs))) (gT : Gs) (v1 : Int32) (v2 : Int32) (v3 : Int32) (v4 : Int32) (v5 : Int32) (v6 : Int32) (v7 : Int32) (v8 : Int64) (v10 : Int32) (v11 : Int32) (s0 : Int32) : Option (Gs) :=
  if s0 = 0 then (b_X12_number_264 n rec gT v1 v2 v3 v4 v5 v6 v7 v8 v10 v11 s0) else (b_X12_number_264 n rec gT v1 v2 (v3 + (1 : Int32)) v4 v5 v6 v7 v8 v10 v11 s0)
def b_X12_number_226 (n : Nat) (rec : (Gs → Int32 → Int32 → Option (Gs)) × (Gs → Int32 → Int32 → Int32 → Int32 → Int32 → Int32 → Int32 → Int64 → Option (Gs)) × (Gs → Int32 → Int32 → Int32 → Int32 → Int32 → Int32 → Int32 → Int64 → Int32 → Int32 → Int32 → Option (Gs))) (gT : Gs) (v1 : Int32) (v2 : Int32) (v3 : Int32) (v4 : Int32) (v5 : Int32) (v6 : Int32) (v7 : Int32) (v8 : Int64) (s0 : Int32) : Option (Gs) :=
  if s0 = 0 then (b_X12_number_354 n rec gT v1 v2 v3 v4 v5 v6 v7 v8 s0 (0 : Int32)) else (bnd (f_X12_at gT (v3 + (1 : Int32))) (fun q_49 => if q_49 = (45 : Int32) then (b_X12_number_254 n rec gT v1 v2 (v3 + (1 : Int32)) v4 v5 v6 v7 v8 s0 (0 : Int32) (1 : Int32)) else (b_X12_number_254 n rec gT v1 v2 (v3 + (1 : Int32)) v4 v5 v6 v7 v8 s0 (0 : Int32) (0 : Int32))))
def b_X12_number_211 (n : Nat) (rec : (Gs → Int32 → Int32 → Option (Gs)) × (Gs → Int32 → Int32 → Int32 → Int32 → Int32 → Int32 → Int32 → Int64 → Option (Gs)) × (Gs → Int32 → Int32 → Int32 → Int32 → Int32 → Int32 → Int32 → Int64 → Int32 → Int32 → Int32 → Option (Gs))) (gT : Gs) (v1 : Int32) (v2 : Int32) (v3 : Int32) (v4 : Int32) (v5 : Int32) (v6 : Int32) (v7 : Int32) (v8 : Int64) : Option (Gs) :=
  bnd (f_X12_at gT v3) (fun q_27 => if q_27 = (112 : Int32) then (b_X12_number_226 n rec gT v1 v2 v3 v4 v5 v6 v7 v8 (1 : Int32)) else (b_X12_number_226 n rec gT v1 v2 v3 v4 v5 v6 v7 v8 (0 : Int32)))
def h_X12_number_79 (n : Nat) (rec : (Gs → Int32 → Int32 → Option (Gs)) × (Gs → Int32 → Int32 → Int32 → Int32 → Int32 → Int32 → Int32 → Int64 → Option (Gs)) × (Gs → Int32 → Int32 → Int32 → Int32 → Int32 → Int32 → Int32 → Int64 → Int32 → Int32 → Int32 → Option (Gs))) (gT : Gs) (v1 : Int32) (v2 : Int32) (v3 : Int32) (v4 : Int32) (v5 : Int32) (v6 : Int32) (v7 : Int32) (v8 : Int64) : Option (Gs) :=
  bnd (f_X12_at gT v3) (fun q_13 => bnd (f_X12_isDigit q_13) (fun q_15 => if q_15 = 0 then (bnd (f_X12_at gT v3) (fun q_25 => if q_25 = (46 : Int32) then (if v6 = 0 then (b_X12_number_105 n rec gT v1 v2 v3 v4 v5 v6 v7 v8) else (b_X12_number_211 n rec gT v1 v2 v3 v4 v5 v6 v7 v8)) else (b_X12_number_211 n rec gT v1 v2 v3 v4 v5 v6 v7 v8))) else (b_X12_number_105 n rec gT v1 v2 v3 v4 v5 v6 v7 v8)))
def b_X12_number_62 (n : Nat) (rec : (Gs → Int32 → Int32 → Option (Gs)) × (Gs → Int32 → Int32 → Int32 → Int32 → Int32 → Int32 → Int32 → Int64 → Option (Gs)) × (Gs → Int32 → Int32 → Int32 → Int32 → Int32 → Int32 → Int32 → Int64 → Int32 → Int32 → Int32 → Option (Gs))) (gT : Gs) (v1 : Int32) (v2 : Int32) : Option (Gs) :=
  rec.2.1 gT v1 v2 v1 (0 : Int32) (0 : Int32) (0 : Int32) (0 : Int32) (0 : Int64)
def h_X12_number_2 (n : Nat) (rec : (Gs → Int32 → Int32 → Option (Gs)) × (Gs → Int32 → Int32 → Int32 → Int32 → Int32 → Int32 → Int32 → Int64 → Option (Gs)) × (Gs → Int32 → Int32 → Int32 → Int32 → Int32 → Int32 → Int32 → Int64 → Int32 → Int32 → Int32 → Option (Gs))) (gT : Gs) (v1 : Int32) (v2 : Int32) : Option (Gs) :=
  bnd (f_X12_at gT v2) (fun q_1 => bnd (f_X12_isDigit q_1) (fun q_3 => if q_3 = 0 then (bnd (f_X12_at gT v2) (fun q_5 => bnd (f_X12_isLetter q_5) (fun q_7 => if q_7 = 0 then (bnd (f_X12_at gT v2) (fun q_9 => if q_9 = (46 : Int32) then (b_X12_number_56 n rec gT v1 v2) else (bnd (f_X12_at gT v2) (fun q_11 => if q_11 = (45 : Int32) then (bnd (f_X12_at gT (v2 - (1 : Int32))) (fun q_61 => if q_61 = (112 : Int32) then (b_X12_number_56 n rec gT v1 v2) else (b_X12_number_62 n rec gT v1 v2))) else (b_X12_number_62 n rec gT v1 v2))))) else (b_X12_number_56 n rec gT v1 v2)))) else (b_X12_number_56 n rec gT v1 v2)))
def L_X12_number (n : Nat) : Nat → ((Gs → Int32 → Int32 → Option (Gs)) × (Gs → Int32 → Int32 → Int32 → Int32 → Int32 → Int32 → Int32 → Int64 → Option (Gs)) × (Gs → Int32 → Int32 → Int32 → Int32 → Int32 → Int32 → Int32 → Int64 → Int32 → Int32 → Int32 → Option (Gs)))
  | 0 => ((fun _ _ _ => none), (fun _ _ _ _ _ _ _ _ _ => none), (fun _ _ _ _ _ _ _ _ _ _ _ _ => none))
  | k + 1 => (h_X12_number_2 n (L_X12_number n k), h_X12_number_79 n (L_X12_number n k), h_X12_number_278 n (L_X12_number n k))
def f_X12_number (n : Nat) (gT : Gs) (x0 : Int32) : Option (Gs) :=
  (L_X12_number n n).1 gT x0 x0
def S_X12_number_56 (l : Launch) (D : Dx) (hT : Nat) (aT : Nat → Nat) (yT : Nat → ClassId) (fn : Gs → Int32 → Int32 → Option (Gs)) : Prop :=
  ∀ {p : Program} {e : Env} {s : State} {m : MethodId} {args : Array Value} {below : List Frame} {meth : Method} {c : Code} {H : Heap} {locs : List Loc} {A : Nat → Prop} {ls : Array Slot} {gT : Gs} {v1 : Int32} {v2 : Int32} {q : Gs}, Cx p s m args meth c cX12_number none 16 RX12 lw_all → Hx D (tX12 yT) A s H locs (wX12 hT aT yT gT) → lv_has ls 16 [(0, .ref hT), (1, .int v1), (2, .int v2)] → fn gT v1 v2 = some q → W p l e R_X12_number s m args below meth c H locs 0 0 (MQ below (QV D A (wX12 hT aT yT q)) args s 0 0 A) (F0 m 56 ls [])
def S_X12_number_205 (l : Launch) (D : Dx) (hT : Nat) (aT : Nat → Nat) (yT : Nat → ClassId) (fn : Gs → Int32 → Int32 → Int32 → Int32 → Int32 → Int32 → Int32 → Int64 → Option (Gs)) : Prop :=
  ∀ {p : Program} {e : Env} {s : State} {m : MethodId} {args : Array Value} {below : List Frame} {meth : Method} {c : Code} {H : Heap} {locs : List Loc} {A : Nat → Prop} {ls : Array Slot} {gT : Gs} {v1 : Int32} {v2 : Int32} {v3 : Int32} {v4 : Int32} {v5 : Int32} {v6 : Int32} {v7 : Int32} {v8 : Int64} {q : Gs}, Cx p s m args meth c cX12_number none 16 RX12 lw_all → Hx D (tX12 yT) A s H locs (wX12 hT aT yT gT) → lv_has ls 16 [(0, .ref hT), (1, .int v1), (2, .int v2), (3, .int v3), (4, .int v4), (5, .int v5), (6, .int v6), (7, .int v7), (8, .long v8)] → fn gT v1 v2 v3 v4 v5 v6 v7 v8 = some q → W p l e R_X12_number s m args below meth c H locs 0 0 (MQ below (QV D A (wX12 hT aT yT q)) args s 0 0 A) (F0 m 205 ls [])
def S_X12_number_194 (l : Launch) (D : Dx) (hT : Nat) (aT : Nat → Nat) (yT : Nat → ClassId) (fn : Gs → Int32 → Int32 → Int32 → Int32 → Int32 → Int32 → Int32 → Int64 → Option (Gs)) : Prop :=
  ∀ {p : Program} {e : Env} {s : State} {m : MethodId} {args : Array Value} {below : List Frame} {meth : Method} {c : Code} {H : Heap} {locs : List Loc} {A : Nat → Prop} {ls : Array Slot} {gT : Gs} {v1 : Int32} {v2 : Int32} {v3 : Int32} {v4 : Int32} {v5 : Int32} {v6 : Int32} {v7 : Int32} {v8 : Int64} {q : Gs}, Cx p s m args meth c cX12_number none 16 RX12 lw_all → Hx D (tX12 yT) A s H locs (wX12 hT aT yT gT) → lv_has ls 16 [(0, .ref hT), (1, .int v1), (2, .int v2), (3, .int v3), (4, .int v4), (5, .int v5), (6, .int v6), (7, .int v7), (8, .long v8)] → fn gT v1 v2 v3 v4 v5 v6 v7 v8 = some q → W p l e R_X12_number s m args below meth c H locs 0 0 (MQ below (QV D A (wX12 hT aT yT q)) args s 0 0 A) (F0 m 194 ls [])
def S_X12_number_175 (l : Launch) (D : Dx) (hT : Nat) (aT : Nat → Nat) (yT : Nat → ClassId) (fn : Gs → Int32 → Int32 → Int32 → Int32 → Int32 → Int32 → Int64 → Int32 → Int32 → Option (Gs)) : Prop :=
  ∀ {p : Program} {e : Env} {s : State} {m : MethodId} {args : Array Value} {below : List Frame} {meth : Method} {c : Code} {H : Heap} {locs : List Loc} {A : Nat → Prop} {ls : Array Slot} {gT : Gs} {v1 : Int32} {v2 : Int32} {v3 : Int32} {v4 : Int32} {v5 : Int32} {v6 : Int32} {v8 : Int64} {v10 : Int32} {s0 : Int32} {q : Gs}, Cx p s m args meth c cX12_number none 16 RX12 lw_all → Hx D (tX12 yT) A s H locs (wX12 hT aT yT gT) → lv_has ls 16 [(0, .ref hT), (1, .int v1), (2, .int v2), (3, .int v3), (4, .int v4), (5, .int v5), (6, .int v6), (8, .long v8), (10, .int v10)] → fn gT v1 v2 v3 v4 v5 v6 v8 v10 s0 = some q → W p l e R_X12_number s m args below meth c H locs 0 0 (MQ below (QV D A (wX12 hT aT yT q)) args s 0 0 A) (F0 m 175 ls [.int s0])
def S_X12_number_170 (l : Launch) (D : Dx) (hT : Nat) (aT : Nat → Nat) (yT : Nat → ClassId) (fn : Gs → Int32 → Int32 → Int32 → Int32 → Int32 → Int32 → Int64 → Int32 → Option (Gs)) : Prop :=
  ∀ {p : Program} {e : Env} {s : State} {m : MethodId} {args : Array Value} {below : List Frame} {meth : Method} {c : Code} {H : Heap} {locs : List Loc} {A : Nat → Prop} {ls : Array Slot} {gT : Gs} {v1 : Int32} {v2 : Int32} {v3 : Int32} {v4 : Int32} {v5 : Int32} {v6 : Int32} {v8 : Int64} {v10 : Int32} {q : Gs}, Cx p s m args meth c cX12_number none 16 RX12 lw_all → Hx D (tX12 yT) A s H locs (wX12 hT aT yT gT) → lv_has ls 16 [(0, .ref hT), (1, .int v1), (2, .int v2), (3, .int v3), (4, .int v4), (5, .int v5), (6, .int v6), (8, .long v8), (10, .int v10)] → fn gT v1 v2 v3 v4 v5 v6 v8 v10 = some q → W p l e R_X12_number s m args below meth c H locs 0 0 (MQ below (QV D A (wX12 hT aT yT q)) args s 0 0 A) (F0 m 170 ls [])
def S_X12_number_105 (l : Launch) (D : Dx) (hT : Nat) (aT : Nat → Nat) (yT : Nat → ClassId) (fn : Gs → Int32 → Int32 → Int32 → Int32 → Int32 → Int32 → Int32 → Int64 → Option (Gs)) : Prop :=
  ∀ {p : Program} {e : Env} {s : State} {m : MethodId} {args : Array Value} {below : List Frame} {meth : Method} {c : Code} {H : Heap} {locs : List Loc} {A : Nat → Prop} {ls : Array Slot} {gT : Gs} {v1 : Int32} {v2 : Int32} {v3 : Int32} {v4 : Int32} {v5 : Int32} {v6 : Int32} {v7 : Int32} {v8 : Int64} {q : Gs}, Cx p s m args meth c cX12_number none 16 RX12 lw_all → Hx D (tX12 yT) A s H locs (wX12 hT aT yT gT) → lv_has ls 16 [(0, .ref hT), (1, .int v1), (2, .int v2), (3, .int v3), (4, .int v4), (5, .int v5), (6, .int v6), (7, .int v7), (8, .long v8)] → fn gT v1 v2 v3 v4 v5 v6 v7 v8 = some q → W p l e R_X12_number s m args below meth c H locs 0 0 (MQ below (QV D A (wX12 hT aT yT q)) args s 0 0 A) (F0 m 105 ls [])
def S_X12_number_486 (l : Launch) (D : Dx) (hT : Nat) (aT : Nat → Nat) (yT : Nat → ClassId) (fn : Gs → Int32 → Int32 → Option (Gs)) : Prop :=
  ∀ {p : Program} {e : Env} {s : State} {m : MethodId} {args : Array Value} {below : List Frame} {meth : Method} {c : Code} {H : Heap} {locs : List Loc} {A : Nat → Prop} {ls : Array Slot} {gT : Gs} {v1 : Int32} {v2 : Int32} {q : Gs}, Cx p s m args meth c cX12_number none 16 RX12 lw_all → Hx D (tX12 yT) A s H locs (wX12 hT aT yT gT) → lv_has ls 16 [(0, .ref hT), (1, .int v1), (2, .int v2)] → fn gT v1 v2 = some q → W p l e R_X12_number s m args below meth c H locs 0 0 (MQ below (QV D A (wX12 hT aT yT q)) args s 0 0 A) (F0 m 486 ls [])
def S_X12_number_539 (l : Launch) (D : Dx) (hT : Nat) (aT : Nat → Nat) (yT : Nat → ClassId) (fn : Gs → Int32 → Int32 → Int32 → Int64 → Option (Gs)) : Prop :=
  ∀ {p : Program} {e : Env} {s : State} {m : MethodId} {args : Array Value} {below : List Frame} {meth : Method} {c : Code} {H : Heap} {locs : List Loc} {A : Nat → Prop} {ls : Array Slot} {gT : Gs} {v1 : Int32} {v2 : Int32} {v12 : Int32} {v14 : Int64} {q : Gs}, Cx p s m args meth c cX12_number none 16 RX12 lw_all → Hx D (tX12 yT) A s H locs (wX12 hT aT yT gT) → lv_has ls 16 [(0, .ref hT), (1, .int v1), (2, .int v2), (12, .int v12), (14, .long v14)] → fn gT v1 v2 v12 v14 = some q → W p l e R_X12_number s m args below meth c H locs 0 0 (MQ below (QV D A (wX12 hT aT yT q)) args s 0 0 A) (F0 m 539 ls [])
def S_X12_number_517 (l : Launch) (D : Dx) (hT : Nat) (aT : Nat → Nat) (yT : Nat → ClassId) (fn : Gs → Int32 → Int32 → Int32 → Int32 → Int64 → Option (Gs)) : Prop :=
  ∀ {p : Program} {e : Env} {s : State} {m : MethodId} {args : Array Value} {below : List Frame} {meth : Method} {c : Code} {H : Heap} {locs : List Loc} {A : Nat → Prop} {ls : Array Slot} {gT : Gs} {v1 : Int32} {v2 : Int32} {v12 : Int32} {v13 : Int32} {v14 : Int64} {q : Gs}, Cx p s m args meth c cX12_number none 16 RX12 lw_all → Hx D (tX12 yT) A s H locs (wX12 hT aT yT gT) → lv_has ls 16 [(0, .ref hT), (1, .int v1), (2, .int v2), (12, .int v12), (13, .int v13), (14, .long v14)] → fn gT v1 v2 v12 v13 v14 = some q → W p l e R_X12_number s m args below meth c H locs 0 0 (MQ below (QV D A (wX12 hT aT yT q)) args s 0 0 A) (F0 m 517 ls [])
def S_X12_number_494 (l : Launch) (D : Dx) (hT : Nat) (aT : Nat → Nat) (yT : Nat → ClassId) (fn : Gs → Int32 → Int32 → Int32 → Int64 → Int32 → Int32 → Int32 → Option (Gs)) : Prop :=
  ∀ {p : Program} {e : Env} {s : State} {m : MethodId} {args : Array Value} {below : List Frame} {meth : Method} {c : Code} {H : Heap} {locs : List Loc} {A : Nat → Prop} {ls : Array Slot} {gT : Gs} {v1 : Int32} {v2 : Int32} {v5 : Int32} {v8 : Int64} {v11 : Int32} {v12 : Int32} {v13 : Int32} {q : Gs}, Cx p s m args meth c cX12_number none 16 RX12 lw_all → Hx D (tX12 yT) A s H locs (wX12 hT aT yT gT) → lv_has ls 16 [(0, .ref hT), (1, .int v1), (2, .int v2), (5, .int v5), (8, .long v8), (11, .int v11), (12, .int v12), (13, .int v13)] → fn gT v1 v2 v5 v8 v11 v12 v13 = some q → W p l e R_X12_number s m args below meth c H locs 0 0 (MQ below (QV D A (wX12 hT aT yT q)) args s 0 0 A) (F0 m 494 ls [])
def S_X12_number_471 (l : Launch) (D : Dx) (hT : Nat) (aT : Nat → Nat) (yT : Nat → ClassId) (fn : Gs → Int32 → Int32 → Int32 → Int64 → Int32 → Int32 → Int32 → Option (Gs)) : Prop :=
  ∀ {p : Program} {e : Env} {s : State} {m : MethodId} {args : Array Value} {below : List Frame} {meth : Method} {c : Code} {H : Heap} {locs : List Loc} {A : Nat → Prop} {ls : Array Slot} {gT : Gs} {v1 : Int32} {v2 : Int32} {v5 : Int32} {v8 : Int64} {v11 : Int32} {v12 : Int32} {v13 : Int32} {q : Gs}, Cx p s m args meth c cX12_number none 16 RX12 lw_all → Hx D (tX12 yT) A s H locs (wX12 hT aT yT gT) → lv_has ls 16 [(0, .ref hT), (1, .int v1), (2, .int v2), (5, .int v5), (8, .long v8), (11, .int v11), (12, .int v12), (13, .int v13)] → fn gT v1 v2 v5 v8 v11 v12 v13 = some q → W p l e R_X12_number s m args below meth c H locs 0 0 (MQ below (QV D A (wX12 hT aT yT q)) args s 0 0 A) (F0 m 471 ls [])
def S_X12_number_442 (l : Launch) (D : Dx) (hT : Nat) (aT : Nat → Nat) (yT : Nat → ClassId) (fn : Gs → Int32 → Int32 → Int32 → Int32 → Int32 → Int32 → Int64 → Int32 → Int32 → Option (Gs)) : Prop :=
  ∀ {p : Program} {e : Env} {s : State} {m : MethodId} {args : Array Value} {below : List Frame} {meth : Method} {c : Code} {H : Heap} {locs : List Loc} {A : Nat → Prop} {ls : Array Slot} {gT : Gs} {v1 : Int32} {v2 : Int32} {v3 : Int32} {v4 : Int32} {v5 : Int32} {v7 : Int32} {v8 : Int64} {v11 : Int32} {v12 : Int32} {q : Gs}, Cx p s m args meth c cX12_number none 16 RX12 lw_all → Hx D (tX12 yT) A s H locs (wX12 hT aT yT gT) → lv_has ls 16 [(0, .ref hT), (1, .int v1), (2, .int v2), (3, .int v3), (4, .int v4), (5, .int v5), (7, .int v7), (8, .long v8), (11, .int v11), (12, .int v12)] → fn gT v1 v2 v3 v4 v5 v7 v8 v11 v12 = some q → W p l e R_X12_number s m args below meth c H locs 0 0 (MQ below (QV D A (wX12 hT aT yT q)) args s 0 0 A) (F0 m 442 ls [])
def S_X12_number_437 (l : Launch) (D : Dx) (hT : Nat) (aT : Nat → Nat) (yT : Nat → ClassId) (fn : Gs → Int32 → Int32 → Int32 → Int32 → Int32 → Int32 → Int64 → Int32 → Int32 → Option (Gs)) : Prop :=
  ∀ {p : Program} {e : Env} {s : State} {m : MethodId} {args : Array Value} {below : List Frame} {meth : Method} {c : Code} {H : Heap} {locs : List Loc} {A : Nat → Prop} {ls : Array Slot} {gT : Gs} {v1 : Int32} {v2 : Int32} {v3 : Int32} {v4 : Int32} {v5 : Int32} {v7 : Int32} {v8 : Int64} {v11 : Int32} {s0 : Int32} {q : Gs}, Cx p s m args meth c cX12_number none 16 RX12 lw_all → Hx D (tX12 yT) A s H locs (wX12 hT aT yT gT) → lv_has ls 16 [(0, .ref hT), (1, .int v1), (2, .int v2), (3, .int v3), (4, .int v4), (5, .int v5), (7, .int v7), (8, .long v8), (11, .int v11)] → fn gT v1 v2 v3 v4 v5 v7 v8 v11 s0 = some q → W p l e R_X12_number s m args below meth c H locs 0 0 (MQ below (QV D A (wX12 hT aT yT q)) args s 0 0 A) (F0 m 437 ls [.int s0])
def S_X12_number_419 (l : Launch) (D : Dx) (hT : Nat) (aT : Nat → Nat) (yT : Nat → ClassId) (fn : Gs → Int32 → Int32 → Int32 → Int32 → Int32 → Int64 → Int32 → Int32 → Option (Gs)) : Prop :=
  ∀ {p : Program} {e : Env} {s : State} {m : MethodId} {args : Array Value} {below : List Frame} {meth : Method} {c : Code} {H : Heap} {locs : List Loc} {A : Nat → Prop} {ls : Array Slot} {gT : Gs} {v1 : Int32} {v2 : Int32} {v3 : Int32} {v4 : Int32} {v5 : Int32} {v8 : Int64} {v11 : Int32} {s0 : Int32} {q : Gs}, Cx p s m args meth c cX12_number none 16 RX12 lw_all → Hx D (tX12 yT) A s H locs (wX12 hT aT yT gT) → lv_has ls 16 [(0, .ref hT), (1, .int v1), (2, .int v2), (3, .int v3), (4, .int v4), (5, .int v5), (8, .long v8), (11, .int v11)] → fn gT v1 v2 v3 v4 v5 v8 v11 s0 = some q → W p l e R_X12_number s m args below meth c H locs 0 0 (MQ below (QV D A (wX12 hT aT yT q)) args s 0 0 A) (F0 m 419 ls [.int s0])
def S_X12_number_414 (l : Launch) (D : Dx) (hT : Nat) (aT : Nat → Nat) (yT : Nat → ClassId) (fn : Gs → Int32 → Int32 → Int32 → Int32 → Int32 → Int64 → Int32 → Option (Gs)) : Prop :=
  ∀ {p : Program} {e : Env} {s : State} {m : MethodId} {args : Array Value} {below : List Frame} {meth : Method} {c : Code} {H : Heap} {locs : List Loc} {A : Nat → Prop} {ls : Array Slot} {gT : Gs} {v1 : Int32} {v2 : Int32} {v3 : Int32} {v4 : Int32} {v5 : Int32} {v8 : Int64} {v11 : Int32} {q : Gs}, Cx p s m args meth c cX12_number none 16 RX12 lw_all → Hx D (tX12 yT) A s H locs (wX12 hT aT yT gT) → lv_has ls 16 [(0, .ref hT), (1, .int v1), (2, .int v2), (3, .int v3), (4, .int v4), (5, .int v5), (8, .long v8), (11, .int v11)] → fn gT v1 v2 v3 v4 v5 v8 v11 = some q → W p l e R_X12_number s m args below meth c H locs 0 0 (MQ below (QV D A (wX12 hT aT yT q)) args s 0 0 A) (F0 m 414 ls [])
def S_X12_number_418 (l : Launch) (D : Dx) (hT : Nat) (aT : Nat → Nat) (yT : Nat → ClassId) (fn : Gs → Int32 → Int32 → Int32 → Int32 → Int32 → Int64 → Int32 → Option (Gs)) : Prop :=
  ∀ {p : Program} {e : Env} {s : State} {m : MethodId} {args : Array Value} {below : List Frame} {meth : Method} {c : Code} {H : Heap} {locs : List Loc} {A : Nat → Prop} {ls : Array Slot} {gT : Gs} {v1 : Int32} {v2 : Int32} {v3 : Int32} {v4 : Int32} {v5 : Int32} {v8 : Int64} {v11 : Int32} {q : Gs}, Cx p s m args meth c cX12_number none 16 RX12 lw_all → Hx D (tX12 yT) A s H locs (wX12 hT aT yT gT) → lv_has ls 16 [(0, .ref hT), (1, .int v1), (2, .int v2), (3, .int v3), (4, .int v4), (5, .int v5), (8, .long v8), (11, .int v11)] → fn gT v1 v2 v3 v4 v5 v8 v11 = some q → W p l e R_X12_number s m args below meth c H locs 0 0 (MQ below (QV D A (wX12 hT aT yT q)) args s 0 0 A) (F0 m 418 ls [])
def S_X12_number_392 (l : Launch) (D : Dx) (hT : Nat) (aT : Nat → Nat) (yT : Nat → ClassId) (fn : Gs → Int32 → Int32 → Int32 → Int32 → Int32 → Int32 → Int64 → Int32 → Int32 → Option (Gs)) : Prop :=
  ∀ {p : Program} {e : Env} {s : State} {m : MethodId} {args : Array Value} {below : List Frame} {meth : Method} {c : Code} {H : Heap} {locs : List Loc} {A : Nat → Prop} {ls : Array Slot} {gT : Gs} {v1 : Int32} {v2 : Int32} {v3 : Int32} {v4 : Int32} {v5 : Int32} {v7 : Int32} {v8 : Int64} {v11 : Int32} {v12 : Int32} {q : Gs}, Cx p s m args meth c cX12_number none 16 RX12 lw_all → Hx D (tX12 yT) A s H locs (wX12 hT aT yT gT) → lv_has ls 16 [(0, .ref hT), (1, .int v1), (2, .int v2), (3, .int v3), (4, .int v4), (5, .int v5), (7, .int v7), (8, .long v8), (11, .int v11), (12, .int v12)] → fn gT v1 v2 v3 v4 v5 v7 v8 v11 v12 = some q → W p l e R_X12_number s m args below meth c H locs 0 0 (MQ below (QV D A (wX12 hT aT yT q)) args s 0 0 A) (F0 m 392 ls [])
def S_X12_number_370 (l : Launch) (D : Dx) (hT : Nat) (aT : Nat → Nat) (yT : Nat → ClassId) (fn : Gs → Int32 → Int32 → Int32 → Int32 → Int32 → Int32 → Int64 → Int32 → Int32 → Option (Gs)) : Prop :=
  ∀ {p : Program} {e : Env} {s : State} {m : MethodId} {args : Array Value} {below : List Frame} {meth : Method} {c : Code} {H : Heap} {locs : List Loc} {A : Nat → Prop} {ls : Array Slot} {gT : Gs} {v1 : Int32} {v2 : Int32} {v3 : Int32} {v4 : Int32} {v5 : Int32} {v7 : Int32} {v8 : Int64} {v11 : Int32} {s0 : Int32} {q : Gs}, Cx p s m args meth c cX12_number none 16 RX12 lw_all → Hx D (tX12 yT) A s H locs (wX12 hT aT yT gT) → lv_has ls 16 [(0, .ref hT), (1, .int v1), (2, .int v2), (3, .int v3), (4, .int v4), (5, .int v5), (7, .int v7), (8, .long v8), (11, .int v11)] → fn gT v1 v2 v3 v4 v5 v7 v8 v11 s0 = some q → W p l e R_X12_number s m args below meth c H locs 0 0 (MQ below (QV D A (wX12 hT aT yT q)) args s 0 0 A) (F0 m 370 ls [.int s0])
def S_X12_number_364 (l : Launch) (D : Dx) (hT : Nat) (aT : Nat → Nat) (yT : Nat → ClassId) (fn : Gs → Int32 → Int32 → Int32 → Int32 → Int32 → Int32 → Int64 → Int32 → Option (Gs)) : Prop :=
  ∀ {p : Program} {e : Env} {s : State} {m : MethodId} {args : Array Value} {below : List Frame} {meth : Method} {c : Code} {H : Heap} {locs : List Loc} {A : Nat → Prop} {ls : Array Slot} {gT : Gs} {v1 : Int32} {v2 : Int32} {v3 : Int32} {v4 : Int32} {v5 : Int32} {v7 : Int32} {v8 : Int64} {v11 : Int32} {q : Gs}, Cx p s m args meth c cX12_number none 16 RX12 lw_all → Hx D (tX12 yT) A s H locs (wX12 hT aT yT gT) → lv_has ls 16 [(0, .ref hT), (1, .int v1), (2, .int v2), (3, .int v3), (4, .int v4), (5, .int v5), (7, .int v7), (8, .long v8), (11, .int v11)] → fn gT v1 v2 v3 v4 v5 v7 v8 v11 = some q → W p l e R_X12_number s m args below meth c H locs 0 0 (MQ below (QV D A (wX12 hT aT yT q)) args s 0 0 A) (F0 m 364 ls [])
def S_X12_number_354 (l : Launch) (D : Dx) (hT : Nat) (aT : Nat → Nat) (yT : Nat → ClassId) (fn : Gs → Int32 → Int32 → Int32 → Int32 → Int32 → Int32 → Int32 → Int64 → Int32 → Int32 → Option (Gs)) : Prop :=
  ∀ {p : Program} {e : Env} {s : State} {m : MethodId} {args : Array Value} {below : List Frame} {meth : Method} {c : Code} {H : Heap} {locs : List Loc} {A : Nat → Prop} {ls : Array Slot} {gT : Gs} {v1 : Int32} {v2 : Int32} {v3 : Int32} {v4 : Int32} {v5 : Int32} {v6 : Int32} {v7 : Int32} {v8 : Int64} {v10 : Int32} {v11 : Int32} {q : Gs}, Cx p s m args meth c cX12_number none 16 RX12 lw_all → Hx D (tX12 yT) A s H locs (wX12 hT aT yT gT) → lv_has ls 16 [(0, .ref hT), (1, .int v1), (2, .int v2), (3, .int v3), (4, .int v4), (5, .int v5), (6, .int v6), (7, .int v7), (8, .long v8), (10, .int v10), (11, .int v11)] → fn gT v1 v2 v3 v4 v5 v6 v7 v8 v10 v11 = some q → W p l e R_X12_number s m args below meth c H locs 0 0 (MQ below (QV D A (wX12 hT aT yT q)) args s 0 0 A) (F0 m 354 ls [])
def S_X12_number_342 (l : Launch) (D : Dx) (hT : Nat) (aT : Nat → Nat) (yT : Nat → ClassId) (fn : Gs → Int32 → Int32 → Int32 → Int32 → Int32 → Int32 → Int64 → Int32 → Int32 → Int32 → Int32 → Option (Gs)) : Prop :=
  ∀ {p : Program} {e : Env} {s : State} {m : MethodId} {args : Array Value} {below : List Frame} {meth : Method} {c : Code} {H : Heap} {locs : List Loc} {A : Nat → Prop} {ls : Array Slot} {gT : Gs} {v1 : Int32} {v2 : Int32} {v3 : Int32} {v4 : Int32} {v5 : Int32} {v6 : Int32} {v8 : Int64} {v10 : Int32} {v11 : Int32} {v12 : Int32} {s0 : Int32} {q : Gs}, Cx p s m args meth c cX12_number none 16 RX12 lw_all → Hx D (tX12 yT) A s H locs (wX12 hT aT yT gT) → lv_has ls 16 [(0, .ref hT), (1, .int v1), (2, .int v2), (3, .int v3), (4, .int v4), (5, .int v5), (6, .int v6), (8, .long v8), (10, .int v10), (11, .int v11), (12, .int v12)] → fn gT v1 v2 v3 v4 v5 v6 v8 v10 v11 v12 s0 = some q → W p l e R_X12_number s m args below meth c H locs 0 0 (MQ below (QV D A (wX12 hT aT yT q)) args s 0 0 A) (F0 m 342 ls [.int s0])
def S_X12_number_337 (l : Launch) (D : Dx) (hT : Nat) (aT : Nat → Nat) (yT : Nat → ClassId) (fn : Gs → Int32 → Int32 → Int32 → Int32 → Int32 → Int32 → Int64 → Int32 → Int32 → Int32 → Option (Gs)) : Prop :=
  ∀ {p : Program} {e : Env} {s : State} {m : MethodId} {args : Array Value} {below : List Frame} {meth : Method} {c : Code} {H : Heap} {locs : List Loc} {A : Nat → Prop} {ls : Array Slot} {gT : Gs} {v1 : Int32} {v2 : Int32} {v3 : Int32} {v4 : Int32} {v5 : Int32} {v6 : Int32} {v8 : Int64} {v10 : Int32} {v11 : Int32} {v12 : Int32} {q : Gs}, Cx p s m args meth c cX12_number none 16 RX12 lw_all → Hx D (tX12 yT) A s H locs (wX12 hT aT yT gT) → lv_has ls 16 [(0, .ref hT), (1, .int v1), (2, .int v2), (3, .int v3), (4, .int v4), (5, .int v5), (6, .int v6), (8, .long v8), (10, .int v10), (11, .int v11), (12, .int v12)] → fn gT v1 v2 v3 v4 v5 v6 v8 v10 v11 v12 = some q → W p l e R_X12_number s m args below meth c H locs 0 0 (MQ below (QV D A (wX12 hT aT yT q)) args s 0 0 A) (F0 m 337 ls [])
def S_X12_number_316 (l : Launch) (D : Dx) (hT : Nat) (aT : Nat → Nat) (yT : Nat → ClassId) (fn : Gs → Int32 → Int32 → Int32 → Int32 → Int32 → Int32 → Int32 → Int64 → Int32 → Int32 → Int32 → Option (Gs)) : Prop :=
  ∀ {p : Program} {e : Env} {s : State} {m : MethodId} {args : Array Value} {below : List Frame} {meth : Method} {c : Code} {H : Heap} {locs : List Loc} {A : Nat → Prop} {ls : Array Slot} {gT : Gs} {v1 : Int32} {v2 : Int32} {v3 : Int32} {v4 : Int32} {v5 : Int32} {v6 : Int32} {v7 : Int32} {v8 : Int64} {v10 : Int32} {v12 : Int32} {s0 : Int32} {q : Gs}, Cx p s m args meth c cX12_number none 16 RX12 lw_all → Hx D (tX12 yT) A s H locs (wX12 hT aT yT gT) → lv_has ls 16 [(0, .ref hT), (1, .int v1), (2, .int v2), (3, .int v3), (4, .int v4), (5, .int v5), (6, .int v6), (7, .int v7), (8, .long v8), (10, .int v10), (12, .int v12)] → fn gT v1 v2 v3 v4 v5 v6 v7 v8 v10 v12 s0 = some q → W p l e R_X12_number s m args below meth c H locs 0 0 (MQ below (QV D A (wX12 hT aT yT q)) args s 0 0 A) (F0 m 316 ls [.int s0])
def S_X12_number_278 (l : Launch) (D : Dx) (hT : Nat) (aT : Nat → Nat) (yT : Nat → ClassId) (fn : Gs → Int32 → Int32 → Int32 → Int32 → Int32 → Int32 → Int32 → Int64 → Int32 → Int32 → Int32 → Option (Gs)) : Prop :=
  ∀ {p : Program} {e : Env} {s : State} {m : MethodId} {args : Array Value} {below : List Frame} {meth : Method} {c : Code} {H : Heap} {locs : List Loc} {A : Nat → Prop} {ls : Array Slot} {gT : Gs} {v1 : Int32} {v2 : Int32} {v3 : Int32} {v4 : Int32} {v5 : Int32} {v6 : Int32} {v7 : Int32} {v8 : Int64} {v10 : Int32} {v11 : Int32} {v12 : Int32} {q : Gs}, Cx p s m args meth c cX12_number none 16 RX12 lw_all → Hx D (tX12 yT) A s H locs (wX12 hT aT yT gT) → lv_has ls 16 [(0, .ref hT), (1, .int v1), (2, .int v2), (3, .int v3), (4, .int v4), (5, .int v5), (6, .int v6), (7, .int v7), (8, .long v8), (10, .int v10), (11, .int v11), (12, .int v12)] → fn gT v1 v2 v3 v4 v5 v6 v7 v8 v10 v11 v12 = some q → W p l e R_X12_number s m args below meth c H locs 0 0 (MQ below (QV D A (wX12 hT aT yT q)) args s 0 0 A) (F0 m 278 ls [])
def S_X12_number_264 (l : Launch) (D : Dx) (hT : Nat) (aT : Nat → Nat) (yT : Nat → ClassId) (fn : Gs → Int32 → Int32 → Int32 → Int32 → Int32 → Int32 → Int32 → Int64 → Int32 → Int32 → Int32 → Option (Gs)) : Prop :=
  ∀ {p : Program} {e : Env} {s : State} {m : MethodId} {args : Array Value} {below : List Frame} {meth : Method} {c : Code} {H : Heap} {locs : List Loc} {A : Nat → Prop} {ls : Array Slot} {gT : Gs} {v1 : Int32} {v2 : Int32} {v3 : Int32} {v4 : Int32} {v5 : Int32} {v6 : Int32} {v7 : Int32} {v8 : Int64} {v10 : Int32} {v11 : Int32} {v12 : Int32} {q : Gs}, Cx p s m args meth c cX12_number none 16 RX12 lw_all → Hx D (tX12 yT) A s H locs (wX12 hT aT yT gT) → lv_has ls 16 [(0, .ref hT), (1, .int v1), (2, .int v2), (3, .int v3), (4, .int v4), (5, .int v5), (6, .int v6), (7, .int v7), (8, .long v8), (10, .int v10), (11, .int v11), (12, .int v12)] → fn gT v1 v2 v3 v4 v5 v6 v7 v8 v10 v11 v12 = some q → W p l e R_X12_number s m args below meth c H locs 0 0 (MQ below (QV D A (wX12 hT aT yT q)) args s 0 0 A) (F0 m 264 ls [])
def S_X12_number_254 (l : Launch) (D : Dx) (hT : Nat) (aT : Nat → Nat) (yT : Nat → ClassId) (fn : Gs → Int32 → Int32 → Int32 → Int32 → Int32 → Int32 → Int32 → Int64 → Int32 → Int32 → Int32 → Option (Gs)) : Prop :=
  ∀ {p : Program} {e : Env} {s : State} {m : MethodId} {args : Array Value} {below : List Frame} {meth : Method} {c : Code} {H : Heap} {locs : List Loc} {A : Nat → Prop} {ls : Array Slot} {gT : Gs} {v1 : Int32} {v2 : Int32} {v3 : Int32} {v4 : Int32} {v5 : Int32} {v6 : Int32} {v7 : Int32} {v8 : Int64} {v10 : Int32} {v11 : Int32} {s0 : Int32} {q : Gs}, Cx p s m args meth c cX12_number none 16 RX12 lw_all → Hx D (tX12 yT) A s H locs (wX12 hT aT yT gT) → lv_has ls 16 [(0, .ref hT), (1, .int v1), (2, .int v2), (3, .int v3), (4, .int v4), (5, .int v5), (6, .int v6), (7, .int v7), (8, .long v8), (10, .int v10), (11, .int v11)] → fn gT v1 v2 v3 v4 v5 v6 v7 v8 v10 v11 s0 = some q → W p l e R_X12_number s m args below meth c H locs 0 0 (MQ below (QV D A (wX12 hT aT yT q)) args s 0 0 A) (F0 m 254 ls [.int s0])
def S_X12_number_226 (l : Launch) (D : Dx) (hT : Nat) (aT : Nat → Nat) (yT : Nat → ClassId) (fn : Gs → Int32 → Int32 → Int32 → Int32 → Int32 → Int32 → Int32 → Int64 → Int32 → Option (Gs)) : Prop :=
  ∀ {p : Program} {e : Env} {s : State} {m : MethodId} {args : Array Value} {below : List Frame} {meth : Method} {c : Code} {H : Heap} {locs : List Loc} {A : Nat → Prop} {ls : Array Slot} {gT : Gs} {v1 : Int32} {v2 : Int32} {v3 : Int32} {v4 : Int32} {v5 : Int32} {v6 : Int32} {v7 : Int32} {v8 : Int64} {s0 : Int32} {q : Gs}, Cx p s m args meth c cX12_number none 16 RX12 lw_all → Hx D (tX12 yT) A s H locs (wX12 hT aT yT gT) → lv_has ls 16 [(0, .ref hT), (1, .int v1), (2, .int v2), (3, .int v3), (4, .int v4), (5, .int v5), (6, .int v6), (7, .int v7), (8, .long v8)] → fn gT v1 v2 v3 v4 v5 v6 v7 v8 s0 = some q → W p l e R_X12_number s m args below meth c H locs 0 0 (MQ below (QV D A (wX12 hT aT yT q)) args s 0 0 A) (F0 m 226 ls [.int s0])
def S_X12_number_211 (l : Launch) (D : Dx) (hT : Nat) (aT : Nat → Nat) (yT : Nat → ClassId) (fn : Gs → Int32 → Int32 → Int32 → Int32 → Int32 → Int32 → Int32 → Int64 → Option (Gs)) : Prop :=
  ∀ {p : Program} {e : Env} {s : State} {m : MethodId} {args : Array Value} {below : List Frame} {meth : Method} {c : Code} {H : Heap} {locs : List Loc} {A : Nat → Prop} {ls : Array Slot} {gT : Gs} {v1 : Int32} {v2 : Int32} {v3 : Int32} {v4 : Int32} {v5 : Int32} {v6 : Int32} {v7 : Int32} {v8 : Int64} {q : Gs}, Cx p s m args meth c cX12_number none 16 RX12 lw_all → Hx D (tX12 yT) A s H locs (wX12 hT aT yT gT) → lv_has ls 16 [(0, .ref hT), (1, .int v1), (2, .int v2), (3, .int v3), (4, .int v4), (5, .int v5), (6, .int v6), (7, .int v7), (8, .long v8)] → fn gT v1 v2 v3 v4 v5 v6 v7 v8 = some q → W p l e R_X12_number s m args below meth c H locs 0 0 (MQ below (QV D A (wX12 hT aT yT q)) args s 0 0 A) (F0 m 211 ls [])
def S_X12_number_79 (l : Launch) (D : Dx) (hT : Nat) (aT : Nat → Nat) (yT : Nat → ClassId) (fn : Gs → Int32 → Int32 → Int32 → Int32 → Int32 → Int32 → Int32 → Int64 → Option (Gs)) : Prop :=
  ∀ {p : Program} {e : Env} {s : State} {m : MethodId} {args : Array Value} {below : List Frame} {meth : Method} {c : Code} {H : Heap} {locs : List Loc} {A : Nat → Prop} {ls : Array Slot} {gT : Gs} {v1 : Int32} {v2 : Int32} {v3 : Int32} {v4 : Int32} {v5 : Int32} {v6 : Int32} {v7 : Int32} {v8 : Int64} {q : Gs}, Cx p s m args meth c cX12_number none 16 RX12 lw_all → Hx D (tX12 yT) A s H locs (wX12 hT aT yT gT) → lv_has ls 16 [(0, .ref hT), (1, .int v1), (2, .int v2), (3, .int v3), (4, .int v4), (5, .int v5), (6, .int v6), (7, .int v7), (8, .long v8)] → fn gT v1 v2 v3 v4 v5 v6 v7 v8 = some q → W p l e R_X12_number s m args below meth c H locs 0 0 (MQ below (QV D A (wX12 hT aT yT q)) args s 0 0 A) (F0 m 79 ls [])
def S_X12_number_62 (l : Launch) (D : Dx) (hT : Nat) (aT : Nat → Nat) (yT : Nat → ClassId) (fn : Gs → Int32 → Int32 → Option (Gs)) : Prop :=
  ∀ {p : Program} {e : Env} {s : State} {m : MethodId} {args : Array Value} {below : List Frame} {meth : Method} {c : Code} {H : Heap} {locs : List Loc} {A : Nat → Prop} {ls : Array Slot} {gT : Gs} {v1 : Int32} {v2 : Int32} {q : Gs}, Cx p s m args meth c cX12_number none 16 RX12 lw_all → Hx D (tX12 yT) A s H locs (wX12 hT aT yT gT) → lv_has ls 16 [(0, .ref hT), (1, .int v1), (2, .int v2)] → fn gT v1 v2 = some q → W p l e R_X12_number s m args below meth c H locs 0 0 (MQ below (QV D A (wX12 hT aT yT q)) args s 0 0 A) (F0 m 62 ls [])
def S_X12_number_2 (l : Launch) (D : Dx) (hT : Nat) (aT : Nat → Nat) (yT : Nat → ClassId) (fn : Gs → Int32 → Int32 → Option (Gs)) : Prop :=
  ∀ {p : Program} {e : Env} {s : State} {m : MethodId} {args : Array Value} {below : List Frame} {meth : Method} {c : Code} {H : Heap} {locs : List Loc} {A : Nat → Prop} {ls : Array Slot} {gT : Gs} {v1 : Int32} {v2 : Int32} {q : Gs}, Cx p s m args meth c cX12_number none 16 RX12 lw_all → Hx D (tX12 yT) A s H locs (wX12 hT aT yT gT) → lv_has ls 16 [(0, .ref hT), (1, .int v1), (2, .int v2)] → fn gT v1 v2 = some q → W p l e R_X12_number s m args below meth c H locs 0 0 (MQ below (QV D A (wX12 hT aT yT q)) args s 0 0 A) (F0 m 2 ls [])
def SH_X12_number (l : Launch) (D : Dx) (hT : Nat) (aT : Nat → Nat) (yT : Nat → ClassId) (rec : (Gs → Int32 → Int32 → Option (Gs)) × (Gs → Int32 → Int32 → Int32 → Int32 → Int32 → Int32 → Int32 → Int64 → Option (Gs)) × (Gs → Int32 → Int32 → Int32 → Int32 → Int32 → Int32 → Int32 → Int64 → Int32 → Int32 → Int32 → Option (Gs))) : Prop := S_X12_number_2 l D hT aT yT rec.1 ∧ S_X12_number_79 l D hT aT yT rec.2.1 ∧ S_X12_number_278 l D hT aT yT rec.2.2
set_option maxHeartbeats 4000000 in
set_option maxRecDepth 100000 in
theorem k_X12_number_56 (l : Launch) (D : Dx) (hT : Nat) (aT : Nat → Nat) (yT : Nat → ClassId) (n : Nat) (rec : (Gs → Int32 → Int32 → Option (Gs)) × (Gs → Int32 → Int32 → Int32 → Int32 → Int32 → Int32 → Int32 → Int64 → Option (Gs)) × (Gs → Int32 → Int32 → Int32 → Int32 → Int32 → Int32 → Int32 → Int64 → Int32 → Int32 → Int32 → Option (Gs))) (IH : SH_X12_number l D hT aT yT rec) : S_X12_number_56 l D hT aT yT (b_X12_number_56 n rec) := by
  intro p e s m args below meth c H locs A ls gT v1 v2 q C X hl hF
  obtain ⟨hx, hb, hr, hml, hown, hts, hlk⟩ := id C
  unfold b_X12_number_56 at hF
  refine lv_iinc (v := v2 + (1 : Int32)) (lv' := [(2, .int (v2 + (1 : Int32))), (0, .ref hT), (1, .int v1)]) hx hb dX12_number_56 hl (k := 2) rfl rfl (by decide) rfl (fun ls hl => ?_)
  refine lv_goto (tgt := 2) hx hb dX12_number_59 (by decide) ?_
  exact IH.1 C X (lv_sub hl [1, 2, 0] rfl) hF
set_option maxHeartbeats 4000000 in
set_option maxRecDepth 100000 in
theorem k_X12_number_205 (l : Launch) (D : Dx) (hT : Nat) (aT : Nat → Nat) (yT : Nat → ClassId) (n : Nat) (rec : (Gs → Int32 → Int32 → Option (Gs)) × (Gs → Int32 → Int32 → Int32 → Int32 → Int32 → Int32 → Int32 → Int64 → Option (Gs)) × (Gs → Int32 → Int32 → Int32 → Int32 → Int32 → Int32 → Int32 → Int64 → Int32 → Int32 → Int32 → Option (Gs))) (IH : SH_X12_number l D hT aT yT rec) : S_X12_number_205 l D hT aT yT (b_X12_number_205 n rec) := by
  intro p e s m args below meth c H locs A ls gT v1 v2 v3 v4 v5 v6 v7 v8 q C X hl hF
  obtain ⟨hx, hb, hr, hml, hown, hts, hlk⟩ := id C
  unfold b_X12_number_205 at hF
  refine lv_iinc (v := v3 + (1 : Int32)) (lv' := [(3, .int (v3 + (1 : Int32))), (0, .ref hT), (1, .int v1), (2, .int v2), (4, .int v4), (5, .int v5), (6, .int v6), (7, .int v7), (8, .long v8)]) hx hb dX12_number_205 hl (k := 3) rfl rfl (by decide) rfl (fun ls hl => ?_)
  refine lv_goto (tgt := 79) hx hb dX12_number_208 (by decide) ?_
  exact IH.2.1 C X (lv_sub hl [1, 2, 3, 0, 4, 5, 6, 7, 8] rfl) hF
set_option maxHeartbeats 4000000 in
set_option maxRecDepth 100000 in
theorem k_X12_number_194 (l : Launch) (D : Dx) (hT : Nat) (aT : Nat → Nat) (yT : Nat → ClassId) (n : Nat) (rec : (Gs → Int32 → Int32 → Option (Gs)) × (Gs → Int32 → Int32 → Int32 → Int32 → Int32 → Int32 → Int32 → Int64 → Option (Gs)) × (Gs → Int32 → Int32 → Int32 → Int32 → Int32 → Int32 → Int32 → Int64 → Int32 → Int32 → Int32 → Option (Gs))) (IH : SH_X12_number l D hT aT yT rec) : S_X12_number_194 l D hT aT yT (b_X12_number_194 n rec) := by
  intro p e s m args below meth c H locs A ls gT v1 v2 v3 v4 v5 v6 v7 v8 q C X hl hF
  obtain ⟨hx, hb, hr, hml, hown, hts, hlk⟩ := id C
  unfold b_X12_number_194 at hF
  refine lv_iinc (v := v4 + (1 : Int32)) (lv' := [(4, .int (v4 + (1 : Int32))), (0, .ref hT), (1, .int v1), (2, .int v2), (3, .int v3), (5, .int v5), (6, .int v6), (7, .int v7), (8, .long v8)]) hx hb dX12_number_194 hl (k := 4) rfl rfl (by decide) rfl (fun ls hl => ?_)
  refine lv_iload hx hb dX12_number_197 (lv_at hl 6 rfl) ?_
  refine lv_if_eq (tgt := 205) hx hb dX12_number_199 (by decide) (fun c => ?_) (fun c => ?_)
  · replace hF := iT c hF
    exact (k_X12_number_205 l D hT aT yT n rec IH) C X (lv_sub hl [1, 2, 3, 4, 0, 5, 6, 7, 8] rfl) hF
  · replace hF := iF c hF
    refine lv_iinc (v := v5 + (1 : Int32)) (lv' := [(5, .int (v5 + (1 : Int32))), (4, .int (v4 + (1 : Int32))), (0, .ref hT), (1, .int v1), (2, .int v2), (3, .int v3), (6, .int v6), (7, .int v7), (8, .long v8)]) hx hb dX12_number_202 hl (k := 5) rfl rfl (by decide) rfl (fun ls hl => ?_)
    exact (k_X12_number_205 l D hT aT yT n rec IH) C X (lv_sub hl [2, 3, 4, 5, 1, 0, 6, 7, 8] rfl) hF
set_option maxHeartbeats 4000000 in
set_option maxRecDepth 100000 in
theorem k_X12_number_175 (l : Launch) (D : Dx) (hT : Nat) (aT : Nat → Nat) (yT : Nat → ClassId) (n : Nat) (rec : (Gs → Int32 → Int32 → Option (Gs)) × (Gs → Int32 → Int32 → Int32 → Int32 → Int32 → Int32 → Int32 → Int64 → Option (Gs)) × (Gs → Int32 → Int32 → Int32 → Int32 → Int32 → Int32 → Int32 → Int64 → Int32 → Int32 → Int32 → Option (Gs))) (IH : SH_X12_number l D hT aT yT rec) : S_X12_number_175 l D hT aT yT (b_X12_number_175 n rec) := by
  intro p e s m args below meth c H locs A ls gT v1 v2 v3 v4 v5 v6 v8 v10 s0 q C X hl hF
  obtain ⟨hx, hb, hr, hml, hown, hts, hlk⟩ := id C
  unfold b_X12_number_175 at hF
  refine lv_istore (lv' := [(7, .int s0), (0, .ref hT), (1, .int v1), (2, .int v2), (3, .int v3), (4, .int v4), (5, .int v5), (6, .int v6), (8, .long v8), (10, .int v10)]) hx hb dX12_number_175 hl (by decide) rfl (fun ls hl => ?_)
  refine lv_iload hx hb dX12_number_177 (lv_at hl 0 rfl) ?_
  refine lv_if_ne (tgt := 194) hx hb dX12_number_179 (by decide) (fun c => ?_) (fun c => ?_)
  · replace hF := iF c hF
    exact (k_X12_number_194 l D hT aT yT n rec IH) C X (lv_sub hl [1, 2, 3, 4, 5, 6, 7, 0, 8] rfl) hF
  · replace hF := iT c hF
    refine lv_ldc2 hx hb hown (hts _ q8_100) dX12_number_182 ?_
    refine lv_lload hx hb dX12_number_185 (lv_at hl 8 rfl) ?_
    refine lv_lmul hx hb dX12_number_187 ?_
    refine lv_iload hx hb dX12_number_188 (lv_at hl 9 rfl) ?_
    refine lv_i2l hx hb dX12_number_190 rfl ?_
    refine lv_ladd hx hb dX12_number_191 ?_
    refine lv_lstore (lv' := [(8, .long (((10 : Int64) * v8) + v10.toInt64)), (7, .int s0), (0, .ref hT), (1, .int v1), (2, .int v2), (3, .int v3), (4, .int v4), (5, .int v5), (6, .int v6), (10, .int v10)]) hx hb dX12_number_192 hl (by decide) rfl (fun ls hl => ?_)
    exact (k_X12_number_194 l D hT aT yT n rec IH) C X (lv_sub hl [2, 3, 4, 5, 6, 7, 8, 1, 0] rfl) hF
set_option maxHeartbeats 4000000 in
set_option maxRecDepth 100000 in
theorem k_X12_number_170 (l : Launch) (D : Dx) (hT : Nat) (aT : Nat → Nat) (yT : Nat → ClassId) (n : Nat) (rec : (Gs → Int32 → Int32 → Option (Gs)) × (Gs → Int32 → Int32 → Int32 → Int32 → Int32 → Int32 → Int32 → Int64 → Option (Gs)) × (Gs → Int32 → Int32 → Int32 → Int32 → Int32 → Int32 → Int32 → Int64 → Int32 → Int32 → Int32 → Option (Gs))) (IH : SH_X12_number l D hT aT yT rec) : S_X12_number_170 l D hT aT yT (b_X12_number_170 n rec) := by
  intro p e s m args below meth c H locs A ls gT v1 v2 v3 v4 v5 v6 v8 v10 q C X hl hF
  obtain ⟨hx, hb, hr, hml, hown, hts, hlk⟩ := id C
  unfold b_X12_number_170 at hF
  refine lv_iconst (v := (1 : Int32)) hx hb dX12_number_170 (by decide) ?_
  refine lv_goto (tgt := 175) hx hb dX12_number_171 (by decide) ?_
  exact (k_X12_number_175 l D hT aT yT n rec IH) C X (lv_sub hl [0, 1, 2, 3, 4, 5, 6, 7, 8] rfl) hF
set_option maxHeartbeats 4000000 in
set_option maxRecDepth 100000 in
theorem k_X12_number_105 (l : Launch) (D : Dx) (hT : Nat) (aT : Nat → Nat) (yT : Nat → ClassId) (n : Nat) (rec : (Gs → Int32 → Int32 → Option (Gs)) × (Gs → Int32 → Int32 → Int32 → Int32 → Int32 → Int32 → Int32 → Int64 → Option (Gs)) × (Gs → Int32 → Int32 → Int32 → Int32 → Int32 → Int32 → Int32 → Int64 → Int32 → Int32 → Int32 → Option (Gs))) (IH : SH_X12_number l D hT aT yT rec) : S_X12_number_105 l D hT aT yT (b_X12_number_105 n rec) := by
  intro p e s m args below meth c H locs A ls gT v1 v2 v3 v4 v5 v6 v7 v8 q C X hl hF
  obtain ⟨hx, hb, hr, hml, hown, hts, hlk⟩ := id C
  unfold b_X12_number_105 at hF
  refine lv_aload_n hx hb dX12_number_105 rfl (lv_at hl 0 rfl) ?_
  refine lv_iload_n hx hb dX12_number_106 rfl (lv_at hl 3 rfl) ?_
  obtain ⟨q_17, hc_18, hF⟩ := bnd_some hF
  refine cV_i (As := [.int v3]) (rest := []) C X (c_X12_at l D hT aT yT gT v3 q_17 hc_18 _) (cwV 1 hts (good_V q8_77 q8_79 q0_67 q1_9 q8_80) rfl rfl rfl (by decide +kernel) ⟨Nat.le_of_ble_eq_true rfl, Nat.le_of_ble_eq_true rfl⟩) (va_recv X.1 X.2.1 (ci := 12) (q0 := 0) rfl rfl) X.1 X.2.1 X.2.2.1 (free_all X) hl.1 rfl rfl (Nat.le_of_ble_eq_true rfl) dX12_number_107 ⟨Nat.le_of_ble_eq_true rfl, Nat.le_of_ble_eq_true rfl⟩ (fun t H1 locs1 ht hB hk hS => ?_)
  have X : Hx D (tX12 yT) A s H1 locs1 (wX12 hT aT yT gT) := Hx_after_all X ht hB hS
  clear hk hS ht hB
  generalize H1 = H at X ⊢
  generalize locs1 = locs at X ⊢
  refine lv_bipush (v := (46 : Int32)) hx hb dX12_number_110 (by decide) ?_
  refine lv_icmp_ne (tgt := 138) hx hb dX12_number_112 (by decide) (fun c => ?_) (fun c => ?_)
  · replace hF := iF c hF
    refine lv_aload_n hx hb dX12_number_138 rfl (lv_at hl 0 rfl) ?_
    refine lv_iload_n hx hb dX12_number_139 rfl (lv_at hl 3 rfl) ?_
    obtain ⟨q_19, hc_20, hF⟩ := bnd_some hF
    refine cV_i (As := [.int v3]) (rest := []) C X (c_X12_at l D hT aT yT gT v3 q_19 hc_20 _) (cwV 1 hts (good_V q8_77 q8_79 q0_67 q1_9 q8_80) rfl rfl rfl (by decide +kernel) ⟨Nat.le_of_ble_eq_true rfl, Nat.le_of_ble_eq_true rfl⟩) (va_recv X.1 X.2.1 (ci := 12) (q0 := 0) rfl rfl) X.1 X.2.1 X.2.2.1 (free_all X) hl.1 rfl rfl (Nat.le_of_ble_eq_true rfl) dX12_number_140 ⟨Nat.le_of_ble_eq_true rfl, Nat.le_of_ble_eq_true rfl⟩ (fun t H1 locs1 ht hB hk hS => ?_)
    have X : Hx D (tX12 yT) A s H1 locs1 (wX12 hT aT yT gT) := Hx_after_all X ht hB hS
    clear hk hS ht hB
    generalize H1 = H at X ⊢
    generalize locs1 = locs at X ⊢
    refine lv_bipush (v := (48 : Int32)) hx hb dX12_number_143 (by decide) ?_
    refine lv_isub hx hb dX12_number_145 ?_
    refine lv_istore (lv' := [(10, .int (q_19 - (48 : Int32))), (0, .ref hT), (1, .int v1), (2, .int v2), (3, .int v3), (4, .int v4), (5, .int v5), (6, .int v6), (7, .int v7), (8, .long v8)]) hx hb dX12_number_146 hl (by decide) rfl (fun ls hl => ?_)
    refine lv_iload hx hb dX12_number_148 (lv_at hl 8 rfl) ?_
    refine lv_if_ne (tgt := 170) hx hb dX12_number_150 (by decide) (fun c => ?_) (fun c => ?_)
    · replace hF := iF c hF
      exact (k_X12_number_170 l D hT aT yT n rec IH) C X (lv_sub hl [1, 2, 3, 4, 5, 6, 7, 9, 0] rfl) hF
    · replace hF := iT c hF
      refine lv_lload hx hb dX12_number_153 (lv_at hl 9 rfl) ?_
      refine lv_ldc2 hx hb hown (hts _ q8_99) dX12_number_155 ?_
      refine lv_iload hx hb dX12_number_158 (lv_at hl 0 rfl) ?_
      refine lv_i2l hx hb dX12_number_160 rfl ?_
      refine lv_lsub hx hb dX12_number_161 ?_
      refine lv_ldc2 hx hb hown (hts _ q8_100) dX12_number_162 ?_
      refine lv_ldiv hx hb dX12_number_165 (by decide) ?_
      refine W.lcmp hx hb dX12_number_166 ?_
      refine lv_if_le (tgt := 174) hx hb dX12_number_167 (by decide) (fun c => ?_) (fun c => ?_)
      · have c := (lg_cmp_le _ _).mp c
        replace hF := iT c hF
        refine lv_iconst (v := (0 : Int32)) hx hb dX12_number_174 (by decide) ?_
        exact (k_X12_number_175 l D hT aT yT n rec IH) C X (lv_sub hl [1, 2, 3, 4, 5, 6, 7, 9, 0] rfl) hF
      · have c := fun h => c ((lg_cmp_le _ _).mpr h)
        replace hF := iF c hF
        exact (k_X12_number_170 l D hT aT yT n rec IH) C X (lv_sub hl [1, 2, 3, 4, 5, 6, 7, 9, 0] rfl) hF
  · replace hF := iT c hF
    refine lv_iconst (v := (1 : Int32)) hx hb dX12_number_115 (by decide) ?_
    refine lv_istore (lv' := [(6, .int (1 : Int32)), (0, .ref hT), (1, .int v1), (2, .int v2), (3, .int v3), (4, .int v4), (5, .int v5), (7, .int v7), (8, .long v8)]) hx hb dX12_number_116 hl (by decide) rfl (fun ls hl => ?_)
    refine lv_iinc (v := v3 + (1 : Int32)) (lv' := [(3, .int (v3 + (1 : Int32))), (6, .int (1 : Int32)), (0, .ref hT), (1, .int v1), (2, .int v2), (4, .int v4), (5, .int v5), (7, .int v7), (8, .long v8)]) hx hb dX12_number_118 hl (k := 4) rfl rfl (by decide) rfl (fun ls hl => ?_)
    refine lv_aload_n hx hb dX12_number_121 rfl (lv_at hl 2 rfl) ?_
    refine lv_iload_n hx hb dX12_number_122 rfl (lv_at hl 0 rfl) ?_
    obtain ⟨q_21, hc_22, hF⟩ := bnd_some hF
    refine cV_i (As := [.int (v3 + (1 : Int32))]) (rest := []) C X (c_X12_at l D hT aT yT gT (v3 + (1 : Int32)) q_21 hc_22 _) (cwV 1 hts (good_V q8_77 q8_79 q0_67 q1_9 q8_80) rfl rfl rfl (by decide +kernel) ⟨Nat.le_of_ble_eq_true rfl, Nat.le_of_ble_eq_true rfl⟩) (va_recv X.1 X.2.1 (ci := 12) (q0 := 0) rfl rfl) X.1 X.2.1 X.2.2.1 (free_all X) hl.1 rfl rfl (Nat.le_of_ble_eq_true rfl) dX12_number_123 ⟨Nat.le_of_ble_eq_true rfl, Nat.le_of_ble_eq_true rfl⟩ (fun t H1 locs1 ht hB hk hS => ?_)
    have X : Hx D (tX12 yT) A s H1 locs1 (wX12 hT aT yT gT) := Hx_after_all X ht hB hS
    clear hk hS ht hB
    generalize H1 = H at X ⊢
    generalize locs1 = locs at X ⊢
    obtain ⟨q_23, hc_24, hF⟩ := bnd_some hF
    refine cS_i (As := [.int q_21]) (rest := []) C X (c_X12_isDigit l D  q_21 q_23 hc_24 _) (va_cwS 1 hts (good_S q8_92 q8_93 q1_9 q8_94) rfl rfl rfl (by decide +kernel) ⟨Nat.le_of_ble_eq_true rfl, Nat.le_of_ble_eq_true rfl⟩) (eK X) eP (eD (A := A)) (eF X) hl.1 rfl rfl (Nat.le_of_ble_eq_true rfl) dX12_number_126 ⟨Nat.le_of_ble_eq_true rfl, Nat.le_of_ble_eq_true rfl⟩ (fun t H1 locs1 ht hB hk hS => ?_)
    have X := Hx_after_none X hk hS
    clear hk hS ht hB
    generalize H1 = H at X ⊢
    generalize locs1 = locs at X ⊢
    refine lv_if_ne (tgt := 79) hx hb dX12_number_129 (by decide) (fun c => ?_) (fun c => ?_)
    · replace hF := iF c hF
      exact IH.2.1 C X (lv_sub hl [2, 3, 4, 0, 5, 6, 1, 7, 8] rfl) hF
    · replace hF := iT c hF
      refine lv_iconst (v := (1 : Int32)) hx hb dX12_number_132 (by decide) ?_
      refine lv_istore (lv' := [(7, .int (1 : Int32)), (3, .int (v3 + (1 : Int32))), (6, .int (1 : Int32)), (0, .ref hT), (1, .int v1), (2, .int v2), (4, .int v4), (5, .int v5), (8, .long v8)]) hx hb dX12_number_133 hl (by decide) rfl (fun ls hl => ?_)
      refine lv_goto (tgt := 79) hx hb dX12_number_135 (by decide) ?_
      exact IH.2.1 C X (lv_sub hl [3, 4, 5, 1, 6, 7, 2, 0, 8] rfl) hF
set_option maxHeartbeats 4000000 in
set_option maxRecDepth 100000 in
theorem k_X12_number_486 (l : Launch) (D : Dx) (hT : Nat) (aT : Nat → Nat) (yT : Nat → ClassId) (n : Nat) (rec : (Gs → Int32 → Int32 → Option (Gs)) × (Gs → Int32 → Int32 → Int32 → Int32 → Int32 → Int32 → Int32 → Int64 → Option (Gs)) × (Gs → Int32 → Int32 → Int32 → Int32 → Int32 → Int32 → Int32 → Int64 → Int32 → Int32 → Int32 → Option (Gs))) (IH : SH_X12_number l D hT aT yT rec) : S_X12_number_486 l D hT aT yT (b_X12_number_486 n rec) := by
  intro p e s m args below meth c H locs A ls gT v1 v2 q C X hl hF
  obtain ⟨hx, hb, hr, hml, hown, hts, hlk⟩ := id C
  unfold b_X12_number_486 at hF
  refine lv_aload_n hx hb dX12_number_486 rfl (lv_at hl 0 rfl) ?_
  refine lv_iconst (v := (1 : Int32)) hx hb dX12_number_487 (by decide) ?_
  refine lv_iload_n hx hb dX12_number_488 rfl (lv_at hl 1 rfl) ?_
  refine lv_iload_n hx hb dX12_number_489 rfl (lv_at hl 2 rfl) ?_
  obtain ⟨q_35, hc_36, hF⟩ := bnd_some hF
  refine cV_v (As := [.int (1 : Int32), .int v1, .int v2]) (rest := []) C X (c_X12_token l D hT aT yT gT (1 : Int32) v1 v2 q_35 hc_36 _) (cwV 3 hts (good_V q8_81 q8_83 q0_68 q1_9 q8_84) rfl rfl rfl (by decide +kernel) ⟨Nat.le_of_ble_eq_true rfl, Nat.le_of_ble_eq_true rfl⟩) (va_recv X.1 X.2.1 (ci := 12) (q0 := 0) rfl rfl) X.1 X.2.1 X.2.2.1 (free_all X) hl.1 rfl rfl (Nat.le_of_ble_eq_true rfl) dX12_number_490 ⟨Nat.le_of_ble_eq_true rfl, Nat.le_of_ble_eq_true rfl⟩ (fun t H1 locs1 ht hB hk hS => ?_)
  have X : Hx D (tX12 yT) A s H1 locs1 (wX12 hT aT yT q_35) := Hx_after_all X ht hB hS
  clear hk hS ht hB
  generalize H1 = H at X ⊢
  generalize locs1 = locs at X ⊢
  have hq := Option.some.inj hF
  subst hq
  exact rt_v C X dX12_number_493
set_option maxHeartbeats 4000000 in
set_option maxRecDepth 100000 in
theorem k_X12_number_539 (l : Launch) (D : Dx) (hT : Nat) (aT : Nat → Nat) (yT : Nat → ClassId) (n : Nat) (rec : (Gs → Int32 → Int32 → Option (Gs)) × (Gs → Int32 → Int32 → Int32 → Int32 → Int32 → Int32 → Int32 → Int64 → Option (Gs)) × (Gs → Int32 → Int32 → Int32 → Int32 → Int32 → Int32 → Int32 → Int64 → Int32 → Int32 → Int32 → Option (Gs))) (IH : SH_X12_number l D hT aT yT rec) : S_X12_number_539 l D hT aT yT (b_X12_number_539 n rec) := by
  intro p e s m args below meth c H locs A ls gT v1 v2 v12 v14 q C X hl hF
  obtain ⟨hx, hb, hr, hml, hown, hts, hlk⟩ := id C
  unfold b_X12_number_539 at hF
  refine lv_aload_n hx hb dX12_number_539 rfl (lv_at hl 0 rfl) ?_
  refine va_get (D := D.1) (ci := 12) (v := .ref (aT 12)) (C := RX12) (T := TX12) (N := 114) hx hb hts wi_X12 hown X.1 X.2.1 0 rfl rfl 12 (by decide) (hts _ q6_206) (fun _ h9 => h9) (fl_get (by decide)) dX12_number_540 ?_
  refine lv_aload_n hx hb dX12_number_543 rfl (lv_at hl 0 rfl) ?_
  refine va_get (D := D.1) (ci := 12) (v := .int (gI gT 8)) (C := RX12) (T := TX12) (N := 114) hx hb hts wi_X12 hown X.1 X.2.1 0 rfl rfl 8 (by decide) (hts _ q6_202) (fun _ h9 => h9) (fl_get (by decide)) dX12_number_544 ?_
  refine lv_lload hx hb dX12_number_547 (lv_at hl 4 rfl) ?_
  obtain ⟨h_37, hF⟩ := grd_some hF
  refine va_last (D := D.1) (f := gLA gT 12) hx hb X.1 X.2.1 X.2.2.1 X.2.2.2.1 7 6 rfl rfl (inB_ok h_37) dX12_number_549 (fun H locs hP hD hS => ?_)
  have X : Hx D (tX12 yT) A s H locs (wX12 hT aT yT (sLA gT 12 (vp_updL (gLA gT 12) (gI gT 8).toNatClampNeg v14))) := Hx_set X (wG_sLA (i := 6) (k := 12) ndX12 rfl rfl) hP hD hS
  refine lv_aload_n hx hb dX12_number_550 rfl (lv_at hl 0 rfl) ?_
  refine va_get (D := D.1) (ci := 12) (v := .ref (aT 13)) (C := RX12) (T := TX12) (N := 114) hx hb hts wi_X12 hown X.1 X.2.1 0 rfl rfl 13 (by decide) (hts _ q6_207) (fun _ h9 => h9) (fl_get (by decide)) dX12_number_551 ?_
  refine lv_aload_n hx hb dX12_number_554 rfl (lv_at hl 0 rfl) ?_
  refine va_get (D := D.1) (ci := 12) (v := .int (gI gT 8)) (C := RX12) (T := TX12) (N := 114) hx hb hts wi_X12 hown X.1 X.2.1 0 rfl rfl 8 (by decide) (hts _ q6_202) (fun _ h9 => h9) (fl_get (by decide)) dX12_number_555 ?_
  refine lv_iload hx hb dX12_number_558 (lv_at hl 3 rfl) ?_
  obtain ⟨h_38, hF⟩ := grd_some hF
  refine va_iast (D := D.1) (f := gIA gT 13) hx hb X.1 X.2.1 X.2.2.1 X.2.2.2.1 8 7 rfl rfl (inB_ok h_38) dX12_number_560 (fun H locs hP hD hS => ?_)
  have X : Hx D (tX12 yT) A s H locs (wX12 hT aT yT (sIA (sLA gT 12 (vp_updL (gLA gT 12) (gI gT 8).toNatClampNeg v14)) 13 (upd (gIA gT 13) (gI gT 8).toNatClampNeg v12))) := Hx_set X (wG_sIA (i := 7) (k := 13) ndX12 rfl rfl) hP hD hS
  refine lv_aload_n hx hb dX12_number_561 rfl (lv_at hl 0 rfl) ?_
  refine lv_iconst (v := (3 : Int32)) hx hb dX12_number_562 (by decide) ?_
  refine lv_iload_n hx hb dX12_number_563 rfl (lv_at hl 1 rfl) ?_
  refine lv_iload_n hx hb dX12_number_564 rfl (lv_at hl 2 rfl) ?_
  obtain ⟨q_39, hc_40, hF⟩ := bnd_some hF
  refine cV_v (As := [.int (3 : Int32), .int v1, .int v2]) (rest := []) C X (c_X12_token l D hT aT yT (sIA (sLA gT 12 (vp_updL (gLA gT 12) (gI gT 8).toNatClampNeg v14)) 13 (upd (gIA gT 13) (gI gT 8).toNatClampNeg v12)) (3 : Int32) v1 v2 q_39 hc_40 _) (cwV 3 hts (good_V q8_81 q8_83 q0_68 q1_9 q8_84) rfl rfl rfl (by decide +kernel) ⟨Nat.le_of_ble_eq_true rfl, Nat.le_of_ble_eq_true rfl⟩) (va_recv X.1 X.2.1 (ci := 12) (q0 := 0) rfl rfl) X.1 X.2.1 X.2.2.1 (free_all X) hl.1 rfl rfl (Nat.le_of_ble_eq_true rfl) dX12_number_565 ⟨Nat.le_of_ble_eq_true rfl, Nat.le_of_ble_eq_true rfl⟩ (fun t H1 locs1 ht hB hk hS => ?_)
  have X : Hx D (tX12 yT) A s H1 locs1 (wX12 hT aT yT q_39) := Hx_after_all X ht hB hS
  clear hk hS ht hB
  generalize H1 = H at X ⊢
  generalize locs1 = locs at X ⊢
  have hq := Option.some.inj hF
  subst hq
  exact rt_v C X dX12_number_568
set_option maxHeartbeats 4000000 in
set_option maxRecDepth 100000 in
theorem k_X12_number_517 (l : Launch) (D : Dx) (hT : Nat) (aT : Nat → Nat) (yT : Nat → ClassId) (n : Nat) (rec : (Gs → Int32 → Int32 → Option (Gs)) × (Gs → Int32 → Int32 → Int32 → Int32 → Int32 → Int32 → Int32 → Int64 → Option (Gs)) × (Gs → Int32 → Int32 → Int32 → Int32 → Int32 → Int32 → Int32 → Int64 → Int32 → Int32 → Int32 → Option (Gs))) (IH : SH_X12_number l D hT aT yT rec) : S_X12_number_517 l D hT aT yT (b_X12_number_517 n rec) := by
  intro p e s m args below meth c H locs A ls gT v1 v2 v12 v13 v14 q C X hl hF
  obtain ⟨hx, hb, hr, hml, hown, hts, hlk⟩ := id C
  unfold b_X12_number_517 at hF
  refine lv_lload hx hb dX12_number_517 (lv_at hl 5 rfl) ?_
  refine lv_ldc2 hx hb hown (hts _ q8_99) dX12_number_519 ?_
  refine W.lcmp hx hb dX12_number_522 ?_
  refine lv_if_ne (tgt := 539) hx hb dX12_number_523 (by decide) (fun c => ?_) (fun c => ?_)
  · have c := fun h => c ((lg_cmp_eq _ _).mpr h)
    replace hF := iF c hF
    exact (k_X12_number_539 l D hT aT yT n rec IH) C X (lv_sub hl [0, 1, 2, 3, 5] rfl) hF
  · have c := (lg_cmp_eq _ _).mp c
    replace hF := iT c hF
    refine lv_iload hx hb dX12_number_526 (lv_at hl 4 rfl) ?_
    refine lv_if_eq (tgt := 539) hx hb dX12_number_528 (by decide) (fun c => ?_) (fun c => ?_)
    · replace hF := iT c hF
      exact (k_X12_number_539 l D hT aT yT n rec IH) C X (lv_sub hl [0, 1, 2, 3, 5] rfl) hF
    · replace hF := iF c hF
      refine lv_aload_n hx hb dX12_number_531 rfl (lv_at hl 0 rfl) ?_
      refine lv_iconst (v := (1 : Int32)) hx hb dX12_number_532 (by decide) ?_
      refine lv_iload_n hx hb dX12_number_533 rfl (lv_at hl 1 rfl) ?_
      refine lv_iload_n hx hb dX12_number_534 rfl (lv_at hl 2 rfl) ?_
      obtain ⟨q_41, hc_42, hF⟩ := bnd_some hF
      refine cV_v (As := [.int (1 : Int32), .int v1, .int v2]) (rest := []) C X (c_X12_token l D hT aT yT gT (1 : Int32) v1 v2 q_41 hc_42 _) (cwV 3 hts (good_V q8_81 q8_83 q0_68 q1_9 q8_84) rfl rfl rfl (by decide +kernel) ⟨Nat.le_of_ble_eq_true rfl, Nat.le_of_ble_eq_true rfl⟩) (va_recv X.1 X.2.1 (ci := 12) (q0 := 0) rfl rfl) X.1 X.2.1 X.2.2.1 (free_all X) hl.1 rfl rfl (Nat.le_of_ble_eq_true rfl) dX12_number_535 ⟨Nat.le_of_ble_eq_true rfl, Nat.le_of_ble_eq_true rfl⟩ (fun t H1 locs1 ht hB hk hS => ?_)
      have X : Hx D (tX12 yT) A s H1 locs1 (wX12 hT aT yT q_41) := Hx_after_all X ht hB hS
      clear hk hS ht hB
      generalize H1 = H at X ⊢
      generalize locs1 = locs at X ⊢
      have hq := Option.some.inj hF
      subst hq
      exact rt_v C X dX12_number_538
set_option maxHeartbeats 4000000 in
set_option maxRecDepth 100000 in
theorem k_X12_number_494 (l : Launch) (D : Dx) (hT : Nat) (aT : Nat → Nat) (yT : Nat → ClassId) (n : Nat) (rec : (Gs → Int32 → Int32 → Option (Gs)) × (Gs → Int32 → Int32 → Int32 → Int32 → Int32 → Int32 → Int32 → Int64 → Option (Gs)) × (Gs → Int32 → Int32 → Int32 → Int32 → Int32 → Int32 → Int32 → Int64 → Int32 → Int32 → Int32 → Option (Gs))) (IH : SH_X12_number l D hT aT yT rec) : S_X12_number_494 l D hT aT yT (b_X12_number_494 n rec) := by
  intro p e s m args below meth c H locs A ls gT v1 v2 v5 v8 v11 v12 v13 q C X hl hF
  obtain ⟨hx, hb, hr, hml, hown, hts, hlk⟩ := id C
  unfold b_X12_number_494 at hF
  refine lv_lload hx hb dX12_number_494 (lv_at hl 4 rfl) ?_
  refine lv_lstore (lv' := [(14, .long v8), (0, .ref hT), (1, .int v1), (2, .int v2), (5, .int v5), (8, .long v8), (11, .int v11), (12, .int v12), (13, .int v13)]) hx hb dX12_number_496 hl (by decide) rfl (fun ls hl => ?_)
  refine lv_iload hx hb dX12_number_498 (lv_at hl 8 rfl) ?_
  refine lv_if_eq (tgt := 517) hx hb dX12_number_500 (by decide) (fun c => ?_) (fun c => ?_)
  · replace hF := iT c hF
    exact (k_X12_number_517 l D hT aT yT n rec IH) C X (lv_sub hl [1, 2, 3, 7, 8, 0] rfl) hF
  · replace hF := iF c hF
    refine lv_aload_n hx hb dX12_number_503 rfl (lv_at hl 1 rfl) ?_
    refine lv_lload hx hb dX12_number_504 (lv_at hl 5 rfl) ?_
    refine lv_iload hx hb dX12_number_506 (lv_at hl 4 rfl) ?_
    refine lv_iload hx hb dX12_number_508 (lv_at hl 6 rfl) ?_
    refine lv_iload hx hb dX12_number_510 (lv_at hl 7 rfl) ?_
    obtain ⟨q_43, hc_44, hF⟩ := bnd_some hF
    refine cV_l (As := [.long v8, .int v5, .int v11, .int v12]) (rest := []) C X (c_X12_realOf l D hT aT yT n gT v8 v5 v11 v12 q_43 hc_44 _) (cwV 4 hts (good_V q8_105 q8_107 q0_71 q1_9 q8_108) rfl rfl rfl (by decide +kernel) ⟨Nat.le_of_ble_eq_true rfl, Nat.le_of_ble_eq_true rfl⟩) (va_recv X.1 X.2.1 (ci := 12) (q0 := 0) rfl rfl) X.1 X.2.1 X.2.2.1 (free_all X) hl.1 rfl rfl (Nat.le_of_ble_eq_true rfl) dX12_number_512 ⟨Nat.le_of_ble_eq_true rfl, Nat.le_of_ble_eq_true rfl⟩ (fun t H1 locs1 ht hB hk hS => ?_)
    have X : Hx D (tX12 yT) A s H1 locs1 (wX12 hT aT yT q_43.2) := Hx_after_all X ht hB hS
    clear hk hS ht hB
    generalize H1 = H at X ⊢
    generalize locs1 = locs at X ⊢
    refine lv_lstore (lv' := [(14, .long q_43.1), (0, .ref hT), (1, .int v1), (2, .int v2), (5, .int v5), (8, .long v8), (11, .int v11), (12, .int v12), (13, .int v13)]) hx hb dX12_number_515 hl (by decide) rfl (fun ls hl => ?_)
    exact (k_X12_number_517 l D hT aT yT n rec IH) C X (lv_sub hl [1, 2, 3, 7, 8, 0] rfl) hF
set_option maxHeartbeats 4000000 in
set_option maxRecDepth 100000 in
theorem k_X12_number_471 (l : Launch) (D : Dx) (hT : Nat) (aT : Nat → Nat) (yT : Nat → ClassId) (n : Nat) (rec : (Gs → Int32 → Int32 → Option (Gs)) × (Gs → Int32 → Int32 → Int32 → Int32 → Int32 → Int32 → Int32 → Int64 → Option (Gs)) × (Gs → Int32 → Int32 → Int32 → Int32 → Int32 → Int32 → Int32 → Int64 → Int32 → Int32 → Int32 → Option (Gs))) (IH : SH_X12_number l D hT aT yT rec) : S_X12_number_471 l D hT aT yT (b_X12_number_471 n rec) := by
  intro p e s m args below meth c H locs A ls gT v1 v2 v5 v8 v11 v12 v13 q C X hl hF
  obtain ⟨hx, hb, hr, hml, hown, hts, hlk⟩ := id C
  unfold b_X12_number_471 at hF
  refine lv_iload hx hb dX12_number_471 (lv_at hl 6 rfl) ?_
  refine lv_iconst (v := (4 : Int32)) hx hb dX12_number_473 (by decide) ?_
  refine lv_icmp_ne (tgt := 494) hx hb dX12_number_474 (by decide) (fun c => ?_) (fun c => ?_)
  · replace hF := iF c hF
    exact (k_X12_number_494 l D hT aT yT n rec IH) C X (lv_sub hl [0, 1, 2, 3, 4, 5, 6, 7] rfl) hF
  · replace hF := iT c hF
    refine lv_lload hx hb dX12_number_477 (lv_at hl 4 rfl) ?_
    refine lv_ldc2 hx hb hown (hts _ q8_104) dX12_number_479 ?_
    refine W.lcmp hx hb dX12_number_482 ?_
    refine lv_if_le (tgt := 494) hx hb dX12_number_483 (by decide) (fun c => ?_) (fun c => ?_)
    · have c := (lg_cmp_le _ _).mp c
      replace hF := iT c hF
      exact (k_X12_number_494 l D hT aT yT n rec IH) C X (lv_sub hl [0, 1, 2, 3, 4, 5, 6, 7] rfl) hF
    · have c := fun h => c ((lg_cmp_le _ _).mpr h)
      replace hF := iF c hF
      exact (k_X12_number_486 l D hT aT yT n rec IH) C X (lv_sub hl [0, 1, 2] rfl) hF
set_option maxHeartbeats 4000000 in
set_option maxRecDepth 100000 in
theorem k_X12_number_442 (l : Launch) (D : Dx) (hT : Nat) (aT : Nat → Nat) (yT : Nat → ClassId) (n : Nat) (rec : (Gs → Int32 → Int32 → Option (Gs)) × (Gs → Int32 → Int32 → Int32 → Int32 → Int32 → Int32 → Int32 → Int64 → Option (Gs)) × (Gs → Int32 → Int32 → Int32 → Int32 → Int32 → Int32 → Int32 → Int64 → Int32 → Int32 → Int32 → Option (Gs))) (IH : SH_X12_number l D hT aT yT rec) : S_X12_number_442 l D hT aT yT (b_X12_number_442 n rec) := by
  intro p e s m args below meth c H locs A ls gT v1 v2 v3 v4 v5 v7 v8 v11 v12 q C X hl hF
  obtain ⟨hx, hb, hr, hml, hown, hts, hlk⟩ := id C
  unfold b_X12_number_442 at hF
  refine lv_iload hx hb dX12_number_442 (lv_at hl 9 rfl) ?_
  obtain ⟨q_33, hc_34, hF⟩ := bnd_some hF
  refine cS_i (As := [.int v12]) (rest := []) C X (c_X12_isReal l D  v12 q_33 hc_34 _) (va_cwS 1 hts (good_S q8_101 q8_102 q1_9 q8_103) rfl rfl rfl (by decide +kernel) ⟨Nat.le_of_ble_eq_true rfl, Nat.le_of_ble_eq_true rfl⟩) (eK X) eP (eD (A := A)) (eF X) hl.1 rfl rfl (Nat.le_of_ble_eq_true rfl) dX12_number_444 ⟨Nat.le_of_ble_eq_true rfl, Nat.le_of_ble_eq_true rfl⟩ (fun t H1 locs1 ht hB hk hS => ?_)
  have X := Hx_after_none X hk hS
  clear hk hS ht hB
  generalize H1 = H at X ⊢
  generalize locs1 = locs at X ⊢
  refine lv_istore (lv' := [(13, .int q_33), (0, .ref hT), (1, .int v1), (2, .int v2), (3, .int v3), (4, .int v4), (5, .int v5), (7, .int v7), (8, .long v8), (11, .int v11), (12, .int v12)]) hx hb dX12_number_447 hl (by decide) rfl (fun ls hl => ?_)
  refine lv_iload_n hx hb dX12_number_449 rfl (lv_at hl 4 rfl) ?_
  refine lv_iload_n hx hb dX12_number_450 rfl (lv_at hl 3 rfl) ?_
  refine lv_icmp_ne (tgt := 486) hx hb dX12_number_451 (by decide) (fun c => ?_) (fun c => ?_)
  · replace hF := iF c hF
    exact (k_X12_number_486 l D hT aT yT n rec IH) C X (lv_sub hl [1, 2, 3] rfl) hF
  · replace hF := iT c hF
    refine lv_iload hx hb dX12_number_454 (lv_at hl 7 rfl) ?_
    refine lv_if_ne (tgt := 486) hx hb dX12_number_456 (by decide) (fun c => ?_) (fun c => ?_)
    · replace hF := iF c hF
      exact (k_X12_number_486 l D hT aT yT n rec IH) C X (lv_sub hl [1, 2, 3] rfl) hF
    · replace hF := iT c hF
      refine lv_iload hx hb dX12_number_459 (lv_at hl 0 rfl) ?_
      refine lv_if_eq (tgt := 471) hx hb dX12_number_461 (by decide) (fun c => ?_) (fun c => ?_)
      · replace hF := iT c hF
        exact (k_X12_number_471 l D hT aT yT n rec IH) C X (lv_sub hl [1, 2, 3, 6, 8, 9, 10, 0] rfl) hF
      · replace hF := iF c hF
        refine lv_iload hx hb dX12_number_464 (lv_at hl 5 rfl) ?_
        refine lv_bipush (v := (15 : Int32)) hx hb dX12_number_466 (by decide) ?_
        refine lv_icmp_gt (tgt := 486) hx hb dX12_number_468 (by decide) (fun c => ?_) (fun c => ?_)
        · replace hF := iT c hF
          exact (k_X12_number_486 l D hT aT yT n rec IH) C X (lv_sub hl [1, 2, 3] rfl) hF
        · replace hF := iF c hF
          exact (k_X12_number_471 l D hT aT yT n rec IH) C X (lv_sub hl [1, 2, 3, 6, 8, 9, 10, 0] rfl) hF
set_option maxHeartbeats 4000000 in
set_option maxRecDepth 100000 in
theorem k_X12_number_437 (l : Launch) (D : Dx) (hT : Nat) (aT : Nat → Nat) (yT : Nat → ClassId) (n : Nat) (rec : (Gs → Int32 → Int32 → Option (Gs)) × (Gs → Int32 → Int32 → Int32 → Int32 → Int32 → Int32 → Int32 → Int64 → Option (Gs)) × (Gs → Int32 → Int32 → Int32 → Int32 → Int32 → Int32 → Int32 → Int64 → Int32 → Int32 → Int32 → Option (Gs))) (IH : SH_X12_number l D hT aT yT rec) : S_X12_number_437 l D hT aT yT (b_X12_number_437 n rec) := by
  intro p e s m args below meth c H locs A ls gT v1 v2 v3 v4 v5 v7 v8 v11 s0 q C X hl hF
  obtain ⟨hx, hb, hr, hml, hown, hts, hlk⟩ := id C
  unfold b_X12_number_437 at hF
  refine lv_istore (lv' := [(12, .int s0), (0, .ref hT), (1, .int v1), (2, .int v2), (3, .int v3), (4, .int v4), (5, .int v5), (7, .int v7), (8, .long v8), (11, .int v11)]) hx hb dX12_number_437 hl (by decide) rfl (fun ls hl => ?_)
  refine lv_iinc (v := v3 + (1 : Int32)) (lv' := [(3, .int (v3 + (1 : Int32))), (12, .int s0), (0, .ref hT), (1, .int v1), (2, .int v2), (4, .int v4), (5, .int v5), (7, .int v7), (8, .long v8), (11, .int v11)]) hx hb dX12_number_439 hl (k := 4) rfl rfl (by decide) rfl (fun ls hl => ?_)
  exact (k_X12_number_442 l D hT aT yT n rec IH) C X (lv_sub hl [2, 3, 4, 0, 5, 6, 7, 8, 9, 1] rfl) hF
set_option maxHeartbeats 4000000 in
set_option maxRecDepth 100000 in
theorem k_X12_number_419 (l : Launch) (D : Dx) (hT : Nat) (aT : Nat → Nat) (yT : Nat → ClassId) (n : Nat) (rec : (Gs → Int32 → Int32 → Option (Gs)) × (Gs → Int32 → Int32 → Int32 → Int32 → Int32 → Int32 → Int32 → Int64 → Option (Gs)) × (Gs → Int32 → Int32 → Int32 → Int32 → Int32 → Int32 → Int32 → Int64 → Int32 → Int32 → Int32 → Option (Gs))) (IH : SH_X12_number l D hT aT yT rec) : S_X12_number_419 l D hT aT yT (b_X12_number_419 n rec) := by
  intro p e s m args below meth c H locs A ls gT v1 v2 v3 v4 v5 v8 v11 s0 q C X hl hF
  obtain ⟨hx, hb, hr, hml, hown, hts, hlk⟩ := id C
  unfold b_X12_number_419 at hF
  refine lv_istore (lv' := [(7, .int s0), (0, .ref hT), (1, .int v1), (2, .int v2), (3, .int v3), (4, .int v4), (5, .int v5), (8, .long v8), (11, .int v11)]) hx hb dX12_number_419 hl (by decide) rfl (fun ls hl => ?_)
  refine lv_aload_n hx hb dX12_number_421 rfl (lv_at hl 1 rfl) ?_
  refine lv_iload_n hx hb dX12_number_422 rfl (lv_at hl 4 rfl) ?_
  obtain ⟨q_31, hc_32, hF⟩ := bnd_some hF
  refine cV_i (As := [.int v3]) (rest := []) C X (c_X12_at l D hT aT yT gT v3 q_31 hc_32 _) (cwV 1 hts (good_V q8_77 q8_79 q0_67 q1_9 q8_80) rfl rfl rfl (by decide +kernel) ⟨Nat.le_of_ble_eq_true rfl, Nat.le_of_ble_eq_true rfl⟩) (va_recv X.1 X.2.1 (ci := 12) (q0 := 0) rfl rfl) X.1 X.2.1 X.2.2.1 (free_all X) hl.1 rfl rfl (Nat.le_of_ble_eq_true rfl) dX12_number_423 ⟨Nat.le_of_ble_eq_true rfl, Nat.le_of_ble_eq_true rfl⟩ (fun t H1 locs1 ht hB hk hS => ?_)
  have X : Hx D (tX12 yT) A s H1 locs1 (wX12 hT aT yT gT) := Hx_after_all X ht hB hS
  clear hk hS ht hB
  generalize H1 = H at X ⊢
  generalize locs1 = locs at X ⊢
  refine lv_bipush (v := (108 : Int32)) hx hb dX12_number_426 (by decide) ?_
  refine lv_icmp_ne (tgt := 435) hx hb dX12_number_428 (by decide) (fun c => ?_) (fun c => ?_)
  · replace hF := iF c hF
    refine lv_bipush (v := (6 : Int32)) hx hb dX12_number_435 (by decide) ?_
    exact (k_X12_number_437 l D hT aT yT n rec IH) C X (lv_sub hl [1, 2, 3, 4, 5, 6, 0, 7, 8] rfl) hF
  · replace hF := iT c hF
    refine lv_iconst (v := (5 : Int32)) hx hb dX12_number_431 (by decide) ?_
    refine lv_goto (tgt := 437) hx hb dX12_number_432 (by decide) ?_
    exact (k_X12_number_437 l D hT aT yT n rec IH) C X (lv_sub hl [1, 2, 3, 4, 5, 6, 0, 7, 8] rfl) hF
set_option maxHeartbeats 4000000 in
set_option maxRecDepth 100000 in
theorem k_X12_number_414 (l : Launch) (D : Dx) (hT : Nat) (aT : Nat → Nat) (yT : Nat → ClassId) (n : Nat) (rec : (Gs → Int32 → Int32 → Option (Gs)) × (Gs → Int32 → Int32 → Int32 → Int32 → Int32 → Int32 → Int32 → Int64 → Option (Gs)) × (Gs → Int32 → Int32 → Int32 → Int32 → Int32 → Int32 → Int32 → Int64 → Int32 → Int32 → Int32 → Option (Gs))) (IH : SH_X12_number l D hT aT yT rec) : S_X12_number_414 l D hT aT yT (b_X12_number_414 n rec) := by
  intro p e s m args below meth c H locs A ls gT v1 v2 v3 v4 v5 v8 v11 q C X hl hF
  obtain ⟨hx, hb, hr, hml, hown, hts, hlk⟩ := id C
  unfold b_X12_number_414 at hF
  refine lv_iconst (v := (1 : Int32)) hx hb dX12_number_414 (by decide) ?_
  refine lv_goto (tgt := 419) hx hb dX12_number_415 (by decide) ?_
  exact (k_X12_number_419 l D hT aT yT n rec IH) C X (lv_sub hl [0, 1, 2, 3, 4, 5, 6, 7] rfl) hF
set_option maxHeartbeats 4000000 in
set_option maxRecDepth 100000 in
theorem k_X12_number_418 (l : Launch) (D : Dx) (hT : Nat) (aT : Nat → Nat) (yT : Nat → ClassId) (n : Nat) (rec : (Gs → Int32 → Int32 → Option (Gs)) × (Gs → Int32 → Int32 → Int32 → Int32 → Int32 → Int32 → Int32 → Int64 → Option (Gs)) × (Gs → Int32 → Int32 → Int32 → Int32 → Int32 → Int32 → Int32 → Int64 → Int32 → Int32 → Int32 → Option (Gs))) (IH : SH_X12_number l D hT aT yT rec) : S_X12_number_418 l D hT aT yT (b_X12_number_418 n rec) := by
  intro p e s m args below meth c H locs A ls gT v1 v2 v3 v4 v5 v8 v11 q C X hl hF
  obtain ⟨hx, hb, hr, hml, hown, hts, hlk⟩ := id C
  unfold b_X12_number_418 at hF
  refine lv_iconst (v := (0 : Int32)) hx hb dX12_number_418 (by decide) ?_
  exact (k_X12_number_419 l D hT aT yT n rec IH) C X (lv_sub hl [0, 1, 2, 3, 4, 5, 6, 7] rfl) hF
set_option maxHeartbeats 4000000 in
set_option maxRecDepth 100000 in
theorem k_X12_number_392 (l : Launch) (D : Dx) (hT : Nat) (aT : Nat → Nat) (yT : Nat → ClassId) (n : Nat) (rec : (Gs → Int32 → Int32 → Option (Gs)) × (Gs → Int32 → Int32 → Int32 → Int32 → Int32 → Int32 → Int32 → Int64 → Option (Gs)) × (Gs → Int32 → Int32 → Int32 → Int32 → Int32 → Int32 → Int32 → Int64 → Int32 → Int32 → Int32 → Option (Gs))) (IH : SH_X12_number l D hT aT yT rec) : S_X12_number_392 l D hT aT yT (b_X12_number_392 n rec) := by
  intro p e s m args below meth c H locs A ls gT v1 v2 v3 v4 v5 v7 v8 v11 v12 q C X hl hF
  obtain ⟨hx, hb, hr, hml, hown, hts, hlk⟩ := id C
  unfold b_X12_number_392 at hF
  refine lv_iload hx hb dX12_number_392 (lv_at hl 6 rfl) ?_
  refine lv_if_ne (tgt := 414) hx hb dX12_number_394 (by decide) (fun c => ?_) (fun c => ?_)
  · replace hF := iF c hF
    exact (k_X12_number_414 l D hT aT yT n rec IH) C X (lv_sub hl [0, 1, 2, 3, 4, 5, 7, 8] rfl) hF
  · replace hF := iT c hF
    refine lv_aload_n hx hb dX12_number_397 rfl (lv_at hl 0 rfl) ?_
    refine lv_iload_n hx hb dX12_number_398 rfl (lv_at hl 3 rfl) ?_
    obtain ⟨q_45, hc_46, hF⟩ := bnd_some hF
    refine cV_i (As := [.int v3]) (rest := []) C X (c_X12_at l D hT aT yT gT v3 q_45 hc_46 _) (cwV 1 hts (good_V q8_77 q8_79 q0_67 q1_9 q8_80) rfl rfl rfl (by decide +kernel) ⟨Nat.le_of_ble_eq_true rfl, Nat.le_of_ble_eq_true rfl⟩) (va_recv X.1 X.2.1 (ci := 12) (q0 := 0) rfl rfl) X.1 X.2.1 X.2.2.1 (free_all X) hl.1 rfl rfl (Nat.le_of_ble_eq_true rfl) dX12_number_399 ⟨Nat.le_of_ble_eq_true rfl, Nat.le_of_ble_eq_true rfl⟩ (fun t H1 locs1 ht hB hk hS => ?_)
    have X : Hx D (tX12 yT) A s H1 locs1 (wX12 hT aT yT gT) := Hx_after_all X ht hB hS
    clear hk hS ht hB
    generalize H1 = H at X ⊢
    generalize locs1 = locs at X ⊢
    refine lv_bipush (v := (108 : Int32)) hx hb dX12_number_402 (by decide) ?_
    refine lv_icmp_ne (tgt := 418) hx hb dX12_number_404 (by decide) (fun c => ?_) (fun c => ?_)
    · replace hF := iF c hF
      exact (k_X12_number_418 l D hT aT yT n rec IH) C X (lv_sub hl [0, 1, 2, 3, 4, 5, 7, 8] rfl) hF
    · replace hF := iT c hF
      refine lv_iload hx hb dX12_number_407 (lv_at hl 9 rfl) ?_
      refine lv_bipush (v := (7 : Int32)) hx hb dX12_number_409 (by decide) ?_
      refine lv_icmp_ne (tgt := 418) hx hb dX12_number_411 (by decide) (fun c => ?_) (fun c => ?_)
      · replace hF := iF c hF
        exact (k_X12_number_418 l D hT aT yT n rec IH) C X (lv_sub hl [0, 1, 2, 3, 4, 5, 7, 8] rfl) hF
      · replace hF := iT c hF
        exact (k_X12_number_414 l D hT aT yT n rec IH) C X (lv_sub hl [0, 1, 2, 3, 4, 5, 7, 8] rfl) hF
set_option maxHeartbeats 4000000 in
set_option maxRecDepth 100000 in
theorem k_X12_number_370 (l : Launch) (D : Dx) (hT : Nat) (aT : Nat → Nat) (yT : Nat → ClassId) (n : Nat) (rec : (Gs → Int32 → Int32 → Option (Gs)) × (Gs → Int32 → Int32 → Int32 → Int32 → Int32 → Int32 → Int32 → Int64 → Option (Gs)) × (Gs → Int32 → Int32 → Int32 → Int32 → Int32 → Int32 → Int32 → Int64 → Int32 → Int32 → Int32 → Option (Gs))) (IH : SH_X12_number l D hT aT yT rec) : S_X12_number_370 l D hT aT yT (b_X12_number_370 n rec) := by
  intro p e s m args below meth c H locs A ls gT v1 v2 v3 v4 v5 v7 v8 v11 s0 q C X hl hF
  obtain ⟨hx, hb, hr, hml, hown, hts, hlk⟩ := id C
  unfold b_X12_number_370 at hF
  refine lv_istore (lv' := [(12, .int s0), (0, .ref hT), (1, .int v1), (2, .int v2), (3, .int v3), (4, .int v4), (5, .int v5), (7, .int v7), (8, .long v8), (11, .int v11)]) hx hb dX12_number_370 hl (by decide) rfl (fun ls hl => ?_)
  refine lv_aload_n hx hb dX12_number_372 rfl (lv_at hl 1 rfl) ?_
  refine lv_iload_n hx hb dX12_number_373 rfl (lv_at hl 4 rfl) ?_
  obtain ⟨q_29, hc_30, hF⟩ := bnd_some hF
  refine cV_i (As := [.int v3]) (rest := []) C X (c_X12_at l D hT aT yT gT v3 q_29 hc_30 _) (cwV 1 hts (good_V q8_77 q8_79 q0_67 q1_9 q8_80) rfl rfl rfl (by decide +kernel) ⟨Nat.le_of_ble_eq_true rfl, Nat.le_of_ble_eq_true rfl⟩) (va_recv X.1 X.2.1 (ci := 12) (q0 := 0) rfl rfl) X.1 X.2.1 X.2.2.1 (free_all X) hl.1 rfl rfl (Nat.le_of_ble_eq_true rfl) dX12_number_374 ⟨Nat.le_of_ble_eq_true rfl, Nat.le_of_ble_eq_true rfl⟩ (fun t H1 locs1 ht hB hk hS => ?_)
  have X : Hx D (tX12 yT) A s H1 locs1 (wX12 hT aT yT gT) := Hx_after_all X ht hB hS
  clear hk hS ht hB
  generalize H1 = H at X ⊢
  generalize locs1 = locs at X ⊢
  refine lv_bipush (v := (108 : Int32)) hx hb dX12_number_377 (by decide) ?_
  refine lv_icmp_eq (tgt := 392) hx hb dX12_number_379 (by decide) (fun c => ?_) (fun c => ?_)
  · replace hF := iT c hF
    exact (k_X12_number_392 l D hT aT yT n rec IH) C X (lv_sub hl [1, 2, 3, 4, 5, 6, 7, 8, 9, 0] rfl) hF
  · replace hF := iF c hF
    refine lv_aload_n hx hb dX12_number_382 rfl (lv_at hl 1 rfl) ?_
    refine lv_iload_n hx hb dX12_number_383 rfl (lv_at hl 4 rfl) ?_
    obtain ⟨q_47, hc_48, hF⟩ := bnd_some hF
    refine cV_i (As := [.int v3]) (rest := []) C X (c_X12_at l D hT aT yT gT v3 q_47 hc_48 _) (cwV 1 hts (good_V q8_77 q8_79 q0_67 q1_9 q8_80) rfl rfl rfl (by decide +kernel) ⟨Nat.le_of_ble_eq_true rfl, Nat.le_of_ble_eq_true rfl⟩) (va_recv X.1 X.2.1 (ci := 12) (q0 := 0) rfl rfl) X.1 X.2.1 X.2.2.1 (free_all X) hl.1 rfl rfl (Nat.le_of_ble_eq_true rfl) dX12_number_384 ⟨Nat.le_of_ble_eq_true rfl, Nat.le_of_ble_eq_true rfl⟩ (fun t H1 locs1 ht hB hk hS => ?_)
    have X : Hx D (tX12 yT) A s H1 locs1 (wX12 hT aT yT gT) := Hx_after_all X ht hB hS
    clear hk hS ht hB
    generalize H1 = H at X ⊢
    generalize locs1 = locs at X ⊢
    refine lv_bipush (v := (102 : Int32)) hx hb dX12_number_387 (by decide) ?_
    refine lv_icmp_ne (tgt := 442) hx hb dX12_number_389 (by decide) (fun c => ?_) (fun c => ?_)
    · replace hF := iF c hF
      exact (k_X12_number_442 l D hT aT yT n rec IH) C X (lv_sub hl [1, 2, 3, 4, 5, 6, 7, 8, 9, 0] rfl) hF
    · replace hF := iT c hF
      exact (k_X12_number_392 l D hT aT yT n rec IH) C X (lv_sub hl [1, 2, 3, 4, 5, 6, 7, 8, 9, 0] rfl) hF
set_option maxHeartbeats 4000000 in
set_option maxRecDepth 100000 in
theorem k_X12_number_364 (l : Launch) (D : Dx) (hT : Nat) (aT : Nat → Nat) (yT : Nat → ClassId) (n : Nat) (rec : (Gs → Int32 → Int32 → Option (Gs)) × (Gs → Int32 → Int32 → Int32 → Int32 → Int32 → Int32 → Int32 → Int64 → Option (Gs)) × (Gs → Int32 → Int32 → Int32 → Int32 → Int32 → Int32 → Int32 → Int64 → Int32 → Int32 → Int32 → Option (Gs))) (IH : SH_X12_number l D hT aT yT rec) : S_X12_number_364 l D hT aT yT (b_X12_number_364 n rec) := by
  intro p e s m args below meth c H locs A ls gT v1 v2 v3 v4 v5 v7 v8 v11 q C X hl hF
  obtain ⟨hx, hb, hr, hml, hown, hts, hlk⟩ := id C
  unfold b_X12_number_364 at hF
  refine lv_bipush (v := (7 : Int32)) hx hb dX12_number_364 (by decide) ?_
  refine lv_goto (tgt := 370) hx hb dX12_number_366 (by decide) ?_
  exact (k_X12_number_370 l D hT aT yT n rec IH) C X (lv_sub hl [0, 1, 2, 3, 4, 5, 6, 7, 8] rfl) hF
set_option maxHeartbeats 4000000 in
set_option maxRecDepth 100000 in
theorem k_X12_number_354 (l : Launch) (D : Dx) (hT : Nat) (aT : Nat → Nat) (yT : Nat → ClassId) (n : Nat) (rec : (Gs → Int32 → Int32 → Option (Gs)) × (Gs → Int32 → Int32 → Int32 → Int32 → Int32 → Int32 → Int32 → Int64 → Option (Gs)) × (Gs → Int32 → Int32 → Int32 → Int32 → Int32 → Int32 → Int32 → Int64 → Int32 → Int32 → Int32 → Option (Gs))) (IH : SH_X12_number l D hT aT yT rec) : S_X12_number_354 l D hT aT yT (b_X12_number_354 n rec) := by
  intro p e s m args below meth c H locs A ls gT v1 v2 v3 v4 v5 v6 v7 v8 v10 v11 q C X hl hF
  obtain ⟨hx, hb, hr, hml, hown, hts, hlk⟩ := id C
  unfold b_X12_number_354 at hF
  refine lv_iload hx hb dX12_number_354 (lv_at hl 6 rfl) ?_
  refine lv_if_ne (tgt := 364) hx hb dX12_number_356 (by decide) (fun c => ?_) (fun c => ?_)
  · replace hF := iF c hF
    exact (k_X12_number_364 l D hT aT yT n rec IH) C X (lv_sub hl [0, 1, 2, 3, 4, 5, 7, 8, 10] rfl) hF
  · replace hF := iT c hF
    refine lv_iload hx hb dX12_number_359 (lv_at hl 9 rfl) ?_
    refine lv_if_eq (tgt := 369) hx hb dX12_number_361 (by decide) (fun c => ?_) (fun c => ?_)
    · replace hF := iT c hF
      refine lv_iconst (v := (4 : Int32)) hx hb dX12_number_369 (by decide) ?_
      exact (k_X12_number_370 l D hT aT yT n rec IH) C X (lv_sub hl [0, 1, 2, 3, 4, 5, 7, 8, 10] rfl) hF
    · replace hF := iF c hF
      exact (k_X12_number_364 l D hT aT yT n rec IH) C X (lv_sub hl [0, 1, 2, 3, 4, 5, 7, 8, 10] rfl) hF
set_option maxHeartbeats 4000000 in
set_option maxRecDepth 100000 in
theorem k_X12_number_342 (l : Launch) (D : Dx) (hT : Nat) (aT : Nat → Nat) (yT : Nat → ClassId) (n : Nat) (rec : (Gs → Int32 → Int32 → Option (Gs)) × (Gs → Int32 → Int32 → Int32 → Int32 → Int32 → Int32 → Int32 → Int64 → Option (Gs)) × (Gs → Int32 → Int32 → Int32 → Int32 → Int32 → Int32 → Int32 → Int64 → Int32 → Int32 → Int32 → Option (Gs))) (IH : SH_X12_number l D hT aT yT rec) : S_X12_number_342 l D hT aT yT (b_X12_number_342 n rec) := by
  intro p e s m args below meth c H locs A ls gT v1 v2 v3 v4 v5 v6 v8 v10 v11 v12 s0 q C X hl hF
  obtain ⟨hx, hb, hr, hml, hown, hts, hlk⟩ := id C
  unfold b_X12_number_342 at hF
  refine lv_istore (lv' := [(7, .int s0), (0, .ref hT), (1, .int v1), (2, .int v2), (3, .int v3), (4, .int v4), (5, .int v5), (6, .int v6), (8, .long v8), (10, .int v10), (11, .int v11), (12, .int v12)]) hx hb dX12_number_342 hl (by decide) rfl (fun ls hl => ?_)
  refine lv_iload hx hb dX12_number_344 (lv_at hl 11 rfl) ?_
  refine lv_if_eq (tgt := 354) hx hb dX12_number_346 (by decide) (fun c => ?_) (fun c => ?_)
  · replace hF := iT c hF
    exact (k_X12_number_354 l D hT aT yT n rec IH) C X (lv_sub hl [1, 2, 3, 4, 5, 6, 7, 0, 8, 9, 10] rfl) hF
  · replace hF := iF c hF
    refine lv_iload hx hb dX12_number_349 (lv_at hl 10 rfl) ?_
    refine lv_ineg hx hb dX12_number_351 ?_
    refine lv_istore (lv' := [(11, .int (-v11)), (7, .int s0), (0, .ref hT), (1, .int v1), (2, .int v2), (3, .int v3), (4, .int v4), (5, .int v5), (6, .int v6), (8, .long v8), (10, .int v10), (12, .int v12)]) hx hb dX12_number_352 hl (by decide) rfl (fun ls hl => ?_)
    exact (k_X12_number_354 l D hT aT yT n rec IH) C X (lv_sub hl [2, 3, 4, 5, 6, 7, 8, 1, 9, 10, 0] rfl) hF
set_option maxHeartbeats 4000000 in
set_option maxRecDepth 100000 in
theorem k_X12_number_337 (l : Launch) (D : Dx) (hT : Nat) (aT : Nat → Nat) (yT : Nat → ClassId) (n : Nat) (rec : (Gs → Int32 → Int32 → Option (Gs)) × (Gs → Int32 → Int32 → Int32 → Int32 → Int32 → Int32 → Int32 → Int64 → Option (Gs)) × (Gs → Int32 → Int32 → Int32 → Int32 → Int32 → Int32 → Int32 → Int64 → Int32 → Int32 → Int32 → Option (Gs))) (IH : SH_X12_number l D hT aT yT rec) : S_X12_number_337 l D hT aT yT (b_X12_number_337 n rec) := by
  intro p e s m args below meth c H locs A ls gT v1 v2 v3 v4 v5 v6 v8 v10 v11 v12 q C X hl hF
  obtain ⟨hx, hb, hr, hml, hown, hts, hlk⟩ := id C
  unfold b_X12_number_337 at hF
  refine lv_iconst (v := (1 : Int32)) hx hb dX12_number_337 (by decide) ?_
  refine lv_goto (tgt := 342) hx hb dX12_number_338 (by decide) ?_
  exact (k_X12_number_342 l D hT aT yT n rec IH) C X (lv_sub hl [0, 1, 2, 3, 4, 5, 6, 7, 8, 9, 10] rfl) hF
set_option maxHeartbeats 4000000 in
set_option maxRecDepth 100000 in
theorem k_X12_number_316 (l : Launch) (D : Dx) (hT : Nat) (aT : Nat → Nat) (yT : Nat → ClassId) (n : Nat) (rec : (Gs → Int32 → Int32 → Option (Gs)) × (Gs → Int32 → Int32 → Int32 → Int32 → Int32 → Int32 → Int32 → Int64 → Option (Gs)) × (Gs → Int32 → Int32 → Int32 → Int32 → Int32 → Int32 → Int32 → Int64 → Int32 → Int32 → Int32 → Option (Gs))) (IH : SH_X12_number l D hT aT yT rec) : S_X12_number_316 l D hT aT yT (b_X12_number_316 n rec) := by
  intro p e s m args below meth c H locs A ls gT v1 v2 v3 v4 v5 v6 v7 v8 v10 v12 s0 q C X hl hF
  obtain ⟨hx, hb, hr, hml, hown, hts, hlk⟩ := id C
  unfold b_X12_number_316 at hF
  refine lv_istore (lv' := [(11, .int s0), (0, .ref hT), (1, .int v1), (2, .int v2), (3, .int v3), (4, .int v4), (5, .int v5), (6, .int v6), (7, .int v7), (8, .long v8), (10, .int v10), (12, .int v12)]) hx hb dX12_number_316 hl (by decide) rfl (fun ls hl => ?_)
  refine lv_iinc (v := v3 + (1 : Int32)) (lv' := [(3, .int (v3 + (1 : Int32))), (11, .int s0), (0, .ref hT), (1, .int v1), (2, .int v2), (4, .int v4), (5, .int v5), (6, .int v6), (7, .int v7), (8, .long v8), (10, .int v10), (12, .int v12)]) hx hb dX12_number_318 hl (k := 4) rfl rfl (by decide) rfl (fun ls hl => ?_)
  refine lv_goto (tgt := 278) hx hb dX12_number_321 (by decide) ?_
  exact IH.2.2 C X (lv_sub hl [2, 3, 4, 0, 5, 6, 7, 8, 9, 10, 1, 11] rfl) hF
set_option maxHeartbeats 4000000 in
set_option maxRecDepth 100000 in
theorem k_X12_number_278 (l : Launch) (D : Dx) (hT : Nat) (aT : Nat → Nat) (yT : Nat → ClassId) (n : Nat) (rec : (Gs → Int32 → Int32 → Option (Gs)) × (Gs → Int32 → Int32 → Int32 → Int32 → Int32 → Int32 → Int32 → Int64 → Option (Gs)) × (Gs → Int32 → Int32 → Int32 → Int32 → Int32 → Int32 → Int32 → Int64 → Int32 → Int32 → Int32 → Option (Gs))) (IH : SH_X12_number l D hT aT yT rec) : S_X12_number_278 l D hT aT yT (h_X12_number_278 n rec) := by
  intro p e s m args below meth c H locs A ls gT v1 v2 v3 v4 v5 v6 v7 v8 v10 v11 v12 q C X hl hF
  obtain ⟨hx, hb, hr, hml, hown, hts, hlk⟩ := id C
  unfold h_X12_number_278 at hF
  refine lv_aload_n hx hb dX12_number_278 rfl (lv_at hl 0 rfl) ?_
  refine lv_iload_n hx hb dX12_number_279 rfl (lv_at hl 3 rfl) ?_
  obtain ⟨q_55, hc_56, hF⟩ := bnd_some hF
  refine cV_i (As := [.int v3]) (rest := []) C X (c_X12_at l D hT aT yT gT v3 q_55 hc_56 _) (cwV 1 hts (good_V q8_77 q8_79 q0_67 q1_9 q8_80) rfl rfl rfl (by decide +kernel) ⟨Nat.le_of_ble_eq_true rfl, Nat.le_of_ble_eq_true rfl⟩) (va_recv X.1 X.2.1 (ci := 12) (q0 := 0) rfl rfl) X.1 X.2.1 X.2.2.1 (free_all X) hl.1 rfl rfl (Nat.le_of_ble_eq_true rfl) dX12_number_280 ⟨Nat.le_of_ble_eq_true rfl, Nat.le_of_ble_eq_true rfl⟩ (fun t H1 locs1 ht hB hk hS => ?_)
  have X : Hx D (tX12 yT) A s H1 locs1 (wX12 hT aT yT gT) := Hx_after_all X ht hB hS
  clear hk hS ht hB
  generalize H1 = H at X ⊢
  generalize locs1 = locs at X ⊢
  obtain ⟨q_57, hc_58, hF⟩ := bnd_some hF
  refine cS_i (As := [.int q_55]) (rest := []) C X (c_X12_isDigit l D  q_55 q_57 hc_58 _) (va_cwS 1 hts (good_S q8_92 q8_93 q1_9 q8_94) rfl rfl rfl (by decide +kernel) ⟨Nat.le_of_ble_eq_true rfl, Nat.le_of_ble_eq_true rfl⟩) (eK X) eP (eD (A := A)) (eF X) hl.1 rfl rfl (Nat.le_of_ble_eq_true rfl) dX12_number_283 ⟨Nat.le_of_ble_eq_true rfl, Nat.le_of_ble_eq_true rfl⟩ (fun t H1 locs1 ht hB hk hS => ?_)
  have X := Hx_after_none X hk hS
  clear hk hS ht hB
  generalize H1 = H at X ⊢
  generalize locs1 = locs at X ⊢
  refine lv_if_eq (tgt := 324) hx hb dX12_number_286 (by decide) (fun c => ?_) (fun c => ?_)
  · replace hF := iT c hF
    refine lv_iload hx hb dX12_number_324 (lv_at hl 7 rfl) ?_
    refine lv_if_ne (tgt := 337) hx hb dX12_number_326 (by decide) (fun c => ?_) (fun c => ?_)
    · replace hF := iF c hF
      exact (k_X12_number_337 l D hT aT yT n rec IH) C X (lv_sub hl [0, 1, 2, 3, 4, 5, 6, 8, 9, 10, 11] rfl) hF
    · replace hF := iT c hF
      refine lv_iload hx hb dX12_number_329 (lv_at hl 10 rfl) ?_
      refine lv_sipush (v := (1100 : Int32)) hx hb dX12_number_331 (by decide) ?_
      refine lv_icmp_le (tgt := 341) hx hb dX12_number_334 (by decide) (fun c => ?_) (fun c => ?_)
      · replace hF := iT c hF
        refine lv_iconst (v := (0 : Int32)) hx hb dX12_number_341 (by decide) ?_
        exact (k_X12_number_342 l D hT aT yT n rec IH) C X (lv_sub hl [0, 1, 2, 3, 4, 5, 6, 8, 9, 10, 11] rfl) hF
      · replace hF := iF c hF
        exact (k_X12_number_337 l D hT aT yT n rec IH) C X (lv_sub hl [0, 1, 2, 3, 4, 5, 6, 8, 9, 10, 11] rfl) hF
  · replace hF := iF c hF
    refine lv_iload hx hb dX12_number_289 (lv_at hl 10 rfl) ?_
    refine lv_sipush (v := (2000 : Int32)) hx hb dX12_number_291 (by decide) ?_
    refine lv_icmp_le (tgt := 302) hx hb dX12_number_294 (by decide) (fun c => ?_) (fun c => ?_)
    · replace hF := iT c hF
      refine lv_bipush (v := (10 : Int32)) hx hb dX12_number_302 (by decide) ?_
      refine lv_iload hx hb dX12_number_304 (lv_at hl 10 rfl) ?_
      refine lv_imul hx hb dX12_number_306 ?_
      refine lv_aload_n hx hb dX12_number_307 rfl (lv_at hl 0 rfl) ?_
      refine lv_iload_n hx hb dX12_number_308 rfl (lv_at hl 3 rfl) ?_
      obtain ⟨q_59, hc_60, hF⟩ := bnd_some hF
      refine cV_i (As := [.int v3]) (rest := [.int ((10 : Int32) * v11)]) C X (c_X12_at l D hT aT yT gT v3 q_59 hc_60 _) (cwV 1 hts (good_V q8_77 q8_79 q0_67 q1_9 q8_80) rfl rfl rfl (by decide +kernel) ⟨Nat.le_of_ble_eq_true rfl, Nat.le_of_ble_eq_true rfl⟩) (va_recv X.1 X.2.1 (ci := 12) (q0 := 0) rfl rfl) X.1 X.2.1 X.2.2.1 (free_all X) hl.1 rfl rfl (Nat.le_of_ble_eq_true rfl) dX12_number_309 ⟨Nat.le_of_ble_eq_true rfl, Nat.le_of_ble_eq_true rfl⟩ (fun t H1 locs1 ht hB hk hS => ?_)
      have X : Hx D (tX12 yT) A s H1 locs1 (wX12 hT aT yT gT) := Hx_after_all X ht hB hS
      clear hk hS ht hB
      generalize H1 = H at X ⊢
      generalize locs1 = locs at X ⊢
      refine lv_iadd hx hb dX12_number_312 ?_
      refine lv_bipush (v := (48 : Int32)) hx hb dX12_number_313 (by decide) ?_
      refine lv_isub hx hb dX12_number_315 ?_
      exact (k_X12_number_316 l D hT aT yT n rec IH) C X (lv_sub hl [0, 1, 2, 3, 4, 5, 6, 7, 8, 9, 11] rfl) hF
    · replace hF := iF c hF
      refine lv_iload hx hb dX12_number_297 (lv_at hl 10 rfl) ?_
      refine lv_goto (tgt := 316) hx hb dX12_number_299 (by decide) ?_
      exact (k_X12_number_316 l D hT aT yT n rec IH) C X (lv_sub hl [0, 1, 2, 3, 4, 5, 6, 7, 8, 9, 11] rfl) hF
set_option maxHeartbeats 4000000 in
set_option maxRecDepth 100000 in
theorem k_X12_number_264 (l : Launch) (D : Dx) (hT : Nat) (aT : Nat → Nat) (yT : Nat → ClassId) (n : Nat) (rec : (Gs → Int32 → Int32 → Option (Gs)) × (Gs → Int32 → Int32 → Int32 → Int32 → Int32 → Int32 → Int32 → Int64 → Option (Gs)) × (Gs → Int32 → Int32 → Int32 → Int32 → Int32 → Int32 → Int32 → Int64 → Int32 → Int32 → Int32 → Option (Gs))) (IH : SH_X12_number l D hT aT yT rec) : S_X12_number_264 l D hT aT yT (b_X12_number_264 n rec) := by
  intro p e s m args below meth c H locs A ls gT v1 v2 v3 v4 v5 v6 v7 v8 v10 v11 v12 q C X hl hF
  obtain ⟨hx, hb, hr, hml, hown, hts, hlk⟩ := id C
  unfold b_X12_number_264 at hF
  refine lv_aload_n hx hb dX12_number_264 rfl (lv_at hl 0 rfl) ?_
  refine lv_iload_n hx hb dX12_number_265 rfl (lv_at hl 3 rfl) ?_
  obtain ⟨q_51, hc_52, hF⟩ := bnd_some hF
  refine cV_i (As := [.int v3]) (rest := []) C X (c_X12_at l D hT aT yT gT v3 q_51 hc_52 _) (cwV 1 hts (good_V q8_77 q8_79 q0_67 q1_9 q8_80) rfl rfl rfl (by decide +kernel) ⟨Nat.le_of_ble_eq_true rfl, Nat.le_of_ble_eq_true rfl⟩) (va_recv X.1 X.2.1 (ci := 12) (q0 := 0) rfl rfl) X.1 X.2.1 X.2.2.1 (free_all X) hl.1 rfl rfl (Nat.le_of_ble_eq_true rfl) dX12_number_266 ⟨Nat.le_of_ble_eq_true rfl, Nat.le_of_ble_eq_true rfl⟩ (fun t H1 locs1 ht hB hk hS => ?_)
  have X : Hx D (tX12 yT) A s H1 locs1 (wX12 hT aT yT gT) := Hx_after_all X ht hB hS
  clear hk hS ht hB
  generalize H1 = H at X ⊢
  generalize locs1 = locs at X ⊢
  obtain ⟨q_53, hc_54, hF⟩ := bnd_some hF
  refine cS_i (As := [.int q_51]) (rest := []) C X (c_X12_isDigit l D  q_51 q_53 hc_54 _) (va_cwS 1 hts (good_S q8_92 q8_93 q1_9 q8_94) rfl rfl rfl (by decide +kernel) ⟨Nat.le_of_ble_eq_true rfl, Nat.le_of_ble_eq_true rfl⟩) (eK X) eP (eD (A := A)) (eF X) hl.1 rfl rfl (Nat.le_of_ble_eq_true rfl) dX12_number_269 ⟨Nat.le_of_ble_eq_true rfl, Nat.le_of_ble_eq_true rfl⟩ (fun t H1 locs1 ht hB hk hS => ?_)
  have X := Hx_after_none X hk hS
  clear hk hS ht hB
  generalize H1 = H at X ⊢
  generalize locs1 = locs at X ⊢
  refine lv_if_ne (tgt := 278) hx hb dX12_number_272 (by decide) (fun c => ?_) (fun c => ?_)
  · replace hF := iF c hF
    exact IH.2.2 C X (lv_sub hl [0, 1, 2, 3, 4, 5, 6, 7, 8, 9, 10, 11] rfl) hF
  · replace hF := iT c hF
    refine lv_iconst (v := (1 : Int32)) hx hb dX12_number_275 (by decide) ?_
    refine lv_istore (lv' := [(7, .int (1 : Int32)), (0, .ref hT), (1, .int v1), (2, .int v2), (3, .int v3), (4, .int v4), (5, .int v5), (6, .int v6), (8, .long v8), (10, .int v10), (11, .int v11), (12, .int v12)]) hx hb dX12_number_276 hl (by decide) rfl (fun ls hl => ?_)
    exact IH.2.2 C X (lv_sub hl [1, 2, 3, 4, 5, 6, 7, 0, 8, 9, 10, 11] rfl) hF
set_option maxHeartbeats 4000000 in
set_option maxRecDepth 100000 in
theorem k_X12_number_254 (l : Launch) (D : Dx) (hT : Nat) (aT : Nat → Nat) (yT : Nat → ClassId) (n : Nat) (rec : (Gs → Int32 → Int32 → Option (Gs)) × (Gs → Int32 → Int32 → Int32 → Int32 → Int32 → Int32 → Int32 → Int64 → Option (Gs)) × (Gs → Int32 → Int32 → Int32 → Int32 → Int32 → Int32 → Int32 → Int64 → Int32 → Int32 → Int32 → Option (Gs))) (IH : SH_X12_number l D hT aT yT rec) : S_X12_number_254 l D hT aT yT (b_X12_number_254 n rec) := by
  intro p e s m args below meth c H locs A ls gT v1 v2 v3 v4 v5 v6 v7 v8 v10 v11 s0 q C X hl hF
  obtain ⟨hx, hb, hr, hml, hown, hts, hlk⟩ := id C
  unfold b_X12_number_254 at hF
  refine lv_istore (lv' := [(12, .int s0), (0, .ref hT), (1, .int v1), (2, .int v2), (3, .int v3), (4, .int v4), (5, .int v5), (6, .int v6), (7, .int v7), (8, .long v8), (10, .int v10), (11, .int v11)]) hx hb dX12_number_254 hl (by decide) rfl (fun ls hl => ?_)
  refine lv_iload hx hb dX12_number_256 (lv_at hl 0 rfl) ?_
  refine lv_if_eq (tgt := 264) hx hb dX12_number_258 (by decide) (fun c => ?_) (fun c => ?_)
  · replace hF := iT c hF
    exact (k_X12_number_264 l D hT aT yT n rec IH) C X (lv_sub hl [1, 2, 3, 4, 5, 6, 7, 8, 9, 10, 11, 0] rfl) hF
  · replace hF := iF c hF
    refine lv_iinc (v := v3 + (1 : Int32)) (lv' := [(3, .int (v3 + (1 : Int32))), (12, .int s0), (0, .ref hT), (1, .int v1), (2, .int v2), (4, .int v4), (5, .int v5), (6, .int v6), (7, .int v7), (8, .long v8), (10, .int v10), (11, .int v11)]) hx hb dX12_number_261 hl (k := 4) rfl rfl (by decide) rfl (fun ls hl => ?_)
    exact (k_X12_number_264 l D hT aT yT n rec IH) C X (lv_sub hl [2, 3, 4, 0, 5, 6, 7, 8, 9, 10, 11, 1] rfl) hF
set_option maxHeartbeats 4000000 in
set_option maxRecDepth 100000 in
theorem k_X12_number_226 (l : Launch) (D : Dx) (hT : Nat) (aT : Nat → Nat) (yT : Nat → ClassId) (n : Nat) (rec : (Gs → Int32 → Int32 → Option (Gs)) × (Gs → Int32 → Int32 → Int32 → Int32 → Int32 → Int32 → Int32 → Int64 → Option (Gs)) × (Gs → Int32 → Int32 → Int32 → Int32 → Int32 → Int32 → Int32 → Int64 → Int32 → Int32 → Int32 → Option (Gs))) (IH : SH_X12_number l D hT aT yT rec) : S_X12_number_226 l D hT aT yT (b_X12_number_226 n rec) := by
  intro p e s m args below meth c H locs A ls gT v1 v2 v3 v4 v5 v6 v7 v8 s0 q C X hl hF
  obtain ⟨hx, hb, hr, hml, hown, hts, hlk⟩ := id C
  unfold b_X12_number_226 at hF
  refine lv_istore (lv' := [(10, .int s0), (0, .ref hT), (1, .int v1), (2, .int v2), (3, .int v3), (4, .int v4), (5, .int v5), (6, .int v6), (7, .int v7), (8, .long v8)]) hx hb dX12_number_226 hl (by decide) rfl (fun ls hl => ?_)
  refine lv_iconst (v := (0 : Int32)) hx hb dX12_number_228 (by decide) ?_
  refine lv_istore (lv' := [(11, .int (0 : Int32)), (10, .int s0), (0, .ref hT), (1, .int v1), (2, .int v2), (3, .int v3), (4, .int v4), (5, .int v5), (6, .int v6), (7, .int v7), (8, .long v8)]) hx hb dX12_number_229 hl (by decide) rfl (fun ls hl => ?_)
  refine lv_iload hx hb dX12_number_231 (lv_at hl 1 rfl) ?_
  refine lv_if_eq (tgt := 354) hx hb dX12_number_233 (by decide) (fun c => ?_) (fun c => ?_)
  · replace hF := iT c hF
    exact (k_X12_number_354 l D hT aT yT n rec IH) C X (lv_sub hl [2, 3, 4, 5, 6, 7, 8, 9, 10, 1, 0] rfl) hF
  · replace hF := iF c hF
    refine lv_iinc (v := v3 + (1 : Int32)) (lv' := [(3, .int (v3 + (1 : Int32))), (11, .int (0 : Int32)), (10, .int s0), (0, .ref hT), (1, .int v1), (2, .int v2), (4, .int v4), (5, .int v5), (6, .int v6), (7, .int v7), (8, .long v8)]) hx hb dX12_number_236 hl (k := 5) rfl rfl (by decide) rfl (fun ls hl => ?_)
    refine lv_aload_n hx hb dX12_number_239 rfl (lv_at hl 3 rfl) ?_
    refine lv_iload_n hx hb dX12_number_240 rfl (lv_at hl 0 rfl) ?_
    obtain ⟨q_49, hc_50, hF⟩ := bnd_some hF
    refine cV_i (As := [.int (v3 + (1 : Int32))]) (rest := []) C X (c_X12_at l D hT aT yT gT (v3 + (1 : Int32)) q_49 hc_50 _) (cwV 1 hts (good_V q8_77 q8_79 q0_67 q1_9 q8_80) rfl rfl rfl (by decide +kernel) ⟨Nat.le_of_ble_eq_true rfl, Nat.le_of_ble_eq_true rfl⟩) (va_recv X.1 X.2.1 (ci := 12) (q0 := 0) rfl rfl) X.1 X.2.1 X.2.2.1 (free_all X) hl.1 rfl rfl (Nat.le_of_ble_eq_true rfl) dX12_number_241 ⟨Nat.le_of_ble_eq_true rfl, Nat.le_of_ble_eq_true rfl⟩ (fun t H1 locs1 ht hB hk hS => ?_)
    have X : Hx D (tX12 yT) A s H1 locs1 (wX12 hT aT yT gT) := Hx_after_all X ht hB hS
    clear hk hS ht hB
    generalize H1 = H at X ⊢
    generalize locs1 = locs at X ⊢
    refine lv_bipush (v := (45 : Int32)) hx hb dX12_number_244 (by decide) ?_
    refine lv_icmp_ne (tgt := 253) hx hb dX12_number_246 (by decide) (fun c => ?_) (fun c => ?_)
    · replace hF := iF c hF
      refine lv_iconst (v := (0 : Int32)) hx hb dX12_number_253 (by decide) ?_
      exact (k_X12_number_254 l D hT aT yT n rec IH) C X (lv_sub hl [3, 4, 5, 0, 6, 7, 8, 9, 10, 2, 1] rfl) hF
    · replace hF := iT c hF
      refine lv_iconst (v := (1 : Int32)) hx hb dX12_number_249 (by decide) ?_
      refine lv_goto (tgt := 254) hx hb dX12_number_250 (by decide) ?_
      exact (k_X12_number_254 l D hT aT yT n rec IH) C X (lv_sub hl [3, 4, 5, 0, 6, 7, 8, 9, 10, 2, 1] rfl) hF
set_option maxHeartbeats 4000000 in
set_option maxRecDepth 100000 in
theorem k_X12_number_211 (l : Launch) (D : Dx) (hT : Nat) (aT : Nat → Nat) (yT : Nat → ClassId) (n : Nat) (rec : (Gs → Int32 → Int32 → Option (Gs)) × (Gs → Int32 → Int32 → Int32 → Int32 → Int32 → Int32 → Int32 → Int64 → Option (Gs)) × (Gs → Int32 → Int32 → Int32 → Int32 → Int32 → Int32 → Int32 → Int64 → Int32 → Int32 → Int32 → Option (Gs))) (IH : SH_X12_number l D hT aT yT rec) : S_X12_number_211 l D hT aT yT (b_X12_number_211 n rec) := by
  intro p e s m args below meth c H locs A ls gT v1 v2 v3 v4 v5 v6 v7 v8 q C X hl hF
  obtain ⟨hx, hb, hr, hml, hown, hts, hlk⟩ := id C
  unfold b_X12_number_211 at hF
  refine lv_aload_n hx hb dX12_number_211 rfl (lv_at hl 0 rfl) ?_
  refine lv_iload_n hx hb dX12_number_212 rfl (lv_at hl 3 rfl) ?_
  obtain ⟨q_27, hc_28, hF⟩ := bnd_some hF
  refine cV_i (As := [.int v3]) (rest := []) C X (c_X12_at l D hT aT yT gT v3 q_27 hc_28 _) (cwV 1 hts (good_V q8_77 q8_79 q0_67 q1_9 q8_80) rfl rfl rfl (by decide +kernel) ⟨Nat.le_of_ble_eq_true rfl, Nat.le_of_ble_eq_true rfl⟩) (va_recv X.1 X.2.1 (ci := 12) (q0 := 0) rfl rfl) X.1 X.2.1 X.2.2.1 (free_all X) hl.1 rfl rfl (Nat.le_of_ble_eq_true rfl) dX12_number_213 ⟨Nat.le_of_ble_eq_true rfl, Nat.le_of_ble_eq_true rfl⟩ (fun t H1 locs1 ht hB hk hS => ?_)
  have X : Hx D (tX12 yT) A s H1 locs1 (wX12 hT aT yT gT) := Hx_after_all X ht hB hS
  clear hk hS ht hB
  generalize H1 = H at X ⊢
  generalize locs1 = locs at X ⊢
  refine lv_bipush (v := (112 : Int32)) hx hb dX12_number_216 (by decide) ?_
  refine lv_icmp_ne (tgt := 225) hx hb dX12_number_218 (by decide) (fun c => ?_) (fun c => ?_)
  · replace hF := iF c hF
    refine lv_iconst (v := (0 : Int32)) hx hb dX12_number_225 (by decide) ?_
    exact (k_X12_number_226 l D hT aT yT n rec IH) C X (lv_sub hl [0, 1, 2, 3, 4, 5, 6, 7, 8] rfl) hF
  · replace hF := iT c hF
    refine lv_iconst (v := (1 : Int32)) hx hb dX12_number_221 (by decide) ?_
    refine lv_goto (tgt := 226) hx hb dX12_number_222 (by decide) ?_
    exact (k_X12_number_226 l D hT aT yT n rec IH) C X (lv_sub hl [0, 1, 2, 3, 4, 5, 6, 7, 8] rfl) hF
set_option maxHeartbeats 4000000 in
set_option maxRecDepth 100000 in
theorem k_X12_number_79 (l : Launch) (D : Dx) (hT : Nat) (aT : Nat → Nat) (yT : Nat → ClassId) (n : Nat) (rec : (Gs → Int32 → Int32 → Option (Gs)) × (Gs → Int32 → Int32 → Int32 → Int32 → Int32 → Int32 → Int32 → Int64 → Option (Gs)) × (Gs → Int32 → Int32 → Int32 → Int32 → Int32 → Int32 → Int32 → Int64 → Int32 → Int32 → Int32 → Option (Gs))) (IH : SH_X12_number l D hT aT yT rec) : S_X12_number_79 l D hT aT yT (h_X12_number_79 n rec) := by
  intro p e s m args below meth c H locs A ls gT v1 v2 v3 v4 v5 v6 v7 v8 q C X hl hF
  obtain ⟨hx, hb, hr, hml, hown, hts, hlk⟩ := id C
  unfold h_X12_number_79 at hF
  refine lv_aload_n hx hb dX12_number_79 rfl (lv_at hl 0 rfl) ?_
  refine lv_iload_n hx hb dX12_number_80 rfl (lv_at hl 3 rfl) ?_
  obtain ⟨q_13, hc_14, hF⟩ := bnd_some hF
  refine cV_i (As := [.int v3]) (rest := []) C X (c_X12_at l D hT aT yT gT v3 q_13 hc_14 _) (cwV 1 hts (good_V q8_77 q8_79 q0_67 q1_9 q8_80) rfl rfl rfl (by decide +kernel) ⟨Nat.le_of_ble_eq_true rfl, Nat.le_of_ble_eq_true rfl⟩) (va_recv X.1 X.2.1 (ci := 12) (q0 := 0) rfl rfl) X.1 X.2.1 X.2.2.1 (free_all X) hl.1 rfl rfl (Nat.le_of_ble_eq_true rfl) dX12_number_81 ⟨Nat.le_of_ble_eq_true rfl, Nat.le_of_ble_eq_true rfl⟩ (fun t H1 locs1 ht hB hk hS => ?_)
  have X : Hx D (tX12 yT) A s H1 locs1 (wX12 hT aT yT gT) := Hx_after_all X ht hB hS
  clear hk hS ht hB
  generalize H1 = H at X ⊢
  generalize locs1 = locs at X ⊢
  obtain ⟨q_15, hc_16, hF⟩ := bnd_some hF
  refine cS_i (As := [.int q_13]) (rest := []) C X (c_X12_isDigit l D  q_13 q_15 hc_16 _) (va_cwS 1 hts (good_S q8_92 q8_93 q1_9 q8_94) rfl rfl rfl (by decide +kernel) ⟨Nat.le_of_ble_eq_true rfl, Nat.le_of_ble_eq_true rfl⟩) (eK X) eP (eD (A := A)) (eF X) hl.1 rfl rfl (Nat.le_of_ble_eq_true rfl) dX12_number_84 ⟨Nat.le_of_ble_eq_true rfl, Nat.le_of_ble_eq_true rfl⟩ (fun t H1 locs1 ht hB hk hS => ?_)
  have X := Hx_after_none X hk hS
  clear hk hS ht hB
  generalize H1 = H at X ⊢
  generalize locs1 = locs at X ⊢
  refine lv_if_ne (tgt := 105) hx hb dX12_number_87 (by decide) (fun c => ?_) (fun c => ?_)
  · replace hF := iF c hF
    exact (k_X12_number_105 l D hT aT yT n rec IH) C X (lv_sub hl [0, 1, 2, 3, 4, 5, 6, 7, 8] rfl) hF
  · replace hF := iT c hF
    refine lv_aload_n hx hb dX12_number_90 rfl (lv_at hl 0 rfl) ?_
    refine lv_iload_n hx hb dX12_number_91 rfl (lv_at hl 3 rfl) ?_
    obtain ⟨q_25, hc_26, hF⟩ := bnd_some hF
    refine cV_i (As := [.int v3]) (rest := []) C X (c_X12_at l D hT aT yT gT v3 q_25 hc_26 _) (cwV 1 hts (good_V q8_77 q8_79 q0_67 q1_9 q8_80) rfl rfl rfl (by decide +kernel) ⟨Nat.le_of_ble_eq_true rfl, Nat.le_of_ble_eq_true rfl⟩) (va_recv X.1 X.2.1 (ci := 12) (q0 := 0) rfl rfl) X.1 X.2.1 X.2.2.1 (free_all X) hl.1 rfl rfl (Nat.le_of_ble_eq_true rfl) dX12_number_92 ⟨Nat.le_of_ble_eq_true rfl, Nat.le_of_ble_eq_true rfl⟩ (fun t H1 locs1 ht hB hk hS => ?_)
    have X : Hx D (tX12 yT) A s H1 locs1 (wX12 hT aT yT gT) := Hx_after_all X ht hB hS
    clear hk hS ht hB
    generalize H1 = H at X ⊢
    generalize locs1 = locs at X ⊢
    refine lv_bipush (v := (46 : Int32)) hx hb dX12_number_95 (by decide) ?_
    refine lv_icmp_ne (tgt := 211) hx hb dX12_number_97 (by decide) (fun c => ?_) (fun c => ?_)
    · replace hF := iF c hF
      exact (k_X12_number_211 l D hT aT yT n rec IH) C X (lv_sub hl [0, 1, 2, 3, 4, 5, 6, 7, 8] rfl) hF
    · replace hF := iT c hF
      refine lv_iload hx hb dX12_number_100 (lv_at hl 6 rfl) ?_
      refine lv_if_ne (tgt := 211) hx hb dX12_number_102 (by decide) (fun c => ?_) (fun c => ?_)
      · replace hF := iF c hF
        exact (k_X12_number_211 l D hT aT yT n rec IH) C X (lv_sub hl [0, 1, 2, 3, 4, 5, 6, 7, 8] rfl) hF
      · replace hF := iT c hF
        exact (k_X12_number_105 l D hT aT yT n rec IH) C X (lv_sub hl [0, 1, 2, 3, 4, 5, 6, 7, 8] rfl) hF
set_option maxHeartbeats 4000000 in
set_option maxRecDepth 100000 in
theorem k_X12_number_62 (l : Launch) (D : Dx) (hT : Nat) (aT : Nat → Nat) (yT : Nat → ClassId) (n : Nat) (rec : (Gs → Int32 → Int32 → Option (Gs)) × (Gs → Int32 → Int32 → Int32 → Int32 → Int32 → Int32 → Int32 → Int64 → Option (Gs)) × (Gs → Int32 → Int32 → Int32 → Int32 → Int32 → Int32 → Int32 → Int64 → Int32 → Int32 → Int32 → Option (Gs))) (IH : SH_X12_number l D hT aT yT rec) : S_X12_number_62 l D hT aT yT (b_X12_number_62 n rec) := by
  intro p e s m args below meth c H locs A ls gT v1 v2 q C X hl hF
  obtain ⟨hx, hb, hr, hml, hown, hts, hlk⟩ := id C
  unfold b_X12_number_62 at hF
  refine lv_iload_n hx hb dX12_number_62 rfl (lv_at hl 1 rfl) ?_
  refine lv_istore_n (lv' := [(3, .int v1), (0, .ref hT), (1, .int v1), (2, .int v2)]) hx hb dX12_number_63 rfl hl (by decide) rfl (fun ls hl => ?_)
  refine lv_iconst (v := (0 : Int32)) hx hb dX12_number_64 (by decide) ?_
  refine lv_istore (lv' := [(4, .int (0 : Int32)), (3, .int v1), (0, .ref hT), (1, .int v1), (2, .int v2)]) hx hb dX12_number_65 hl (by decide) rfl (fun ls hl => ?_)
  refine lv_iconst (v := (0 : Int32)) hx hb dX12_number_67 (by decide) ?_
  refine lv_istore (lv' := [(5, .int (0 : Int32)), (4, .int (0 : Int32)), (3, .int v1), (0, .ref hT), (1, .int v1), (2, .int v2)]) hx hb dX12_number_68 hl (by decide) rfl (fun ls hl => ?_)
  refine lv_iconst (v := (0 : Int32)) hx hb dX12_number_70 (by decide) ?_
  refine lv_istore (lv' := [(6, .int (0 : Int32)), (5, .int (0 : Int32)), (4, .int (0 : Int32)), (3, .int v1), (0, .ref hT), (1, .int v1), (2, .int v2)]) hx hb dX12_number_71 hl (by decide) rfl (fun ls hl => ?_)
  refine lv_iconst (v := (0 : Int32)) hx hb dX12_number_73 (by decide) ?_
  refine lv_istore (lv' := [(7, .int (0 : Int32)), (6, .int (0 : Int32)), (5, .int (0 : Int32)), (4, .int (0 : Int32)), (3, .int v1), (0, .ref hT), (1, .int v1), (2, .int v2)]) hx hb dX12_number_74 hl (by decide) rfl (fun ls hl => ?_)
  refine lv_lconst (v := (0 : Int64)) hx hb dX12_number_76 (by decide) ?_
  refine lv_lstore (lv' := [(8, .long (0 : Int64)), (7, .int (0 : Int32)), (6, .int (0 : Int32)), (5, .int (0 : Int32)), (4, .int (0 : Int32)), (3, .int v1), (0, .ref hT), (1, .int v1), (2, .int v2)]) hx hb dX12_number_77 hl (by decide) rfl (fun ls hl => ?_)
  exact IH.2.1 C X (lv_sub hl [6, 7, 8, 5, 4, 3, 2, 1, 0] rfl) hF
set_option maxHeartbeats 4000000 in
set_option maxRecDepth 100000 in
theorem k_X12_number_2 (l : Launch) (D : Dx) (hT : Nat) (aT : Nat → Nat) (yT : Nat → ClassId) (n : Nat) (rec : (Gs → Int32 → Int32 → Option (Gs)) × (Gs → Int32 → Int32 → Int32 → Int32 → Int32 → Int32 → Int32 → Int64 → Option (Gs)) × (Gs → Int32 → Int32 → Int32 → Int32 → Int32 → Int32 → Int32 → Int64 → Int32 → Int32 → Int32 → Option (Gs))) (IH : SH_X12_number l D hT aT yT rec) : S_X12_number_2 l D hT aT yT (h_X12_number_2 n rec) := by
  intro p e s m args below meth c H locs A ls gT v1 v2 q C X hl hF
  obtain ⟨hx, hb, hr, hml, hown, hts, hlk⟩ := id C
  unfold h_X12_number_2 at hF
  refine lv_aload_n hx hb dX12_number_2 rfl (lv_at hl 0 rfl) ?_
  refine lv_iload_n hx hb dX12_number_3 rfl (lv_at hl 2 rfl) ?_
  obtain ⟨q_1, hc_2, hF⟩ := bnd_some hF
  refine cV_i (As := [.int v2]) (rest := []) C X (c_X12_at l D hT aT yT gT v2 q_1 hc_2 _) (cwV 1 hts (good_V q8_77 q8_79 q0_67 q1_9 q8_80) rfl rfl rfl (by decide +kernel) ⟨Nat.le_of_ble_eq_true rfl, Nat.le_of_ble_eq_true rfl⟩) (va_recv X.1 X.2.1 (ci := 12) (q0 := 0) rfl rfl) X.1 X.2.1 X.2.2.1 (free_all X) hl.1 rfl rfl (Nat.le_of_ble_eq_true rfl) dX12_number_4 ⟨Nat.le_of_ble_eq_true rfl, Nat.le_of_ble_eq_true rfl⟩ (fun t H1 locs1 ht hB hk hS => ?_)
  have X : Hx D (tX12 yT) A s H1 locs1 (wX12 hT aT yT gT) := Hx_after_all X ht hB hS
  clear hk hS ht hB
  generalize H1 = H at X ⊢
  generalize locs1 = locs at X ⊢
  obtain ⟨q_3, hc_4, hF⟩ := bnd_some hF
  refine cS_i (As := [.int q_1]) (rest := []) C X (c_X12_isDigit l D  q_1 q_3 hc_4 _) (va_cwS 1 hts (good_S q8_92 q8_93 q1_9 q8_94) rfl rfl rfl (by decide +kernel) ⟨Nat.le_of_ble_eq_true rfl, Nat.le_of_ble_eq_true rfl⟩) (eK X) eP (eD (A := A)) (eF X) hl.1 rfl rfl (Nat.le_of_ble_eq_true rfl) dX12_number_7 ⟨Nat.le_of_ble_eq_true rfl, Nat.le_of_ble_eq_true rfl⟩ (fun t H1 locs1 ht hB hk hS => ?_)
  have X := Hx_after_none X hk hS
  clear hk hS ht hB
  generalize H1 = H at X ⊢
  generalize locs1 = locs at X ⊢
  refine lv_if_ne (tgt := 56) hx hb dX12_number_10 (by decide) (fun c => ?_) (fun c => ?_)
  · replace hF := iF c hF
    exact (k_X12_number_56 l D hT aT yT n rec IH) C X (lv_sub hl [0, 1, 2] rfl) hF
  · replace hF := iT c hF
    refine lv_aload_n hx hb dX12_number_13 rfl (lv_at hl 0 rfl) ?_
    refine lv_iload_n hx hb dX12_number_14 rfl (lv_at hl 2 rfl) ?_
    obtain ⟨q_5, hc_6, hF⟩ := bnd_some hF
    refine cV_i (As := [.int v2]) (rest := []) C X (c_X12_at l D hT aT yT gT v2 q_5 hc_6 _) (cwV 1 hts (good_V q8_77 q8_79 q0_67 q1_9 q8_80) rfl rfl rfl (by decide +kernel) ⟨Nat.le_of_ble_eq_true rfl, Nat.le_of_ble_eq_true rfl⟩) (va_recv X.1 X.2.1 (ci := 12) (q0 := 0) rfl rfl) X.1 X.2.1 X.2.2.1 (free_all X) hl.1 rfl rfl (Nat.le_of_ble_eq_true rfl) dX12_number_15 ⟨Nat.le_of_ble_eq_true rfl, Nat.le_of_ble_eq_true rfl⟩ (fun t H1 locs1 ht hB hk hS => ?_)
    have X : Hx D (tX12 yT) A s H1 locs1 (wX12 hT aT yT gT) := Hx_after_all X ht hB hS
    clear hk hS ht hB
    generalize H1 = H at X ⊢
    generalize locs1 = locs at X ⊢
    obtain ⟨q_7, hc_8, hF⟩ := bnd_some hF
    refine cS_i (As := [.int q_5]) (rest := []) C X (c_X12_isLetter l D  q_5 q_7 hc_8 _) (va_cwS 1 hts (good_S q8_85 q8_86 q1_9 q8_87) rfl rfl rfl (by decide +kernel) ⟨Nat.le_of_ble_eq_true rfl, Nat.le_of_ble_eq_true rfl⟩) (eK X) eP (eD (A := A)) (eF X) hl.1 rfl rfl (Nat.le_of_ble_eq_true rfl) dX12_number_18 ⟨Nat.le_of_ble_eq_true rfl, Nat.le_of_ble_eq_true rfl⟩ (fun t H1 locs1 ht hB hk hS => ?_)
    have X := Hx_after_none X hk hS
    clear hk hS ht hB
    generalize H1 = H at X ⊢
    generalize locs1 = locs at X ⊢
    refine lv_if_ne (tgt := 56) hx hb dX12_number_21 (by decide) (fun c => ?_) (fun c => ?_)
    · replace hF := iF c hF
      exact (k_X12_number_56 l D hT aT yT n rec IH) C X (lv_sub hl [0, 1, 2] rfl) hF
    · replace hF := iT c hF
      refine lv_aload_n hx hb dX12_number_24 rfl (lv_at hl 0 rfl) ?_
      refine lv_iload_n hx hb dX12_number_25 rfl (lv_at hl 2 rfl) ?_
      obtain ⟨q_9, hc_10, hF⟩ := bnd_some hF
      refine cV_i (As := [.int v2]) (rest := []) C X (c_X12_at l D hT aT yT gT v2 q_9 hc_10 _) (cwV 1 hts (good_V q8_77 q8_79 q0_67 q1_9 q8_80) rfl rfl rfl (by decide +kernel) ⟨Nat.le_of_ble_eq_true rfl, Nat.le_of_ble_eq_true rfl⟩) (va_recv X.1 X.2.1 (ci := 12) (q0 := 0) rfl rfl) X.1 X.2.1 X.2.2.1 (free_all X) hl.1 rfl rfl (Nat.le_of_ble_eq_true rfl) dX12_number_26 ⟨Nat.le_of_ble_eq_true rfl, Nat.le_of_ble_eq_true rfl⟩ (fun t H1 locs1 ht hB hk hS => ?_)
      have X : Hx D (tX12 yT) A s H1 locs1 (wX12 hT aT yT gT) := Hx_after_all X ht hB hS
      clear hk hS ht hB
      generalize H1 = H at X ⊢
      generalize locs1 = locs at X ⊢
      refine lv_bipush (v := (46 : Int32)) hx hb dX12_number_29 (by decide) ?_
      refine lv_icmp_eq (tgt := 56) hx hb dX12_number_31 (by decide) (fun c => ?_) (fun c => ?_)
      · replace hF := iT c hF
        exact (k_X12_number_56 l D hT aT yT n rec IH) C X (lv_sub hl [0, 1, 2] rfl) hF
      · replace hF := iF c hF
        refine lv_aload_n hx hb dX12_number_34 rfl (lv_at hl 0 rfl) ?_
        refine lv_iload_n hx hb dX12_number_35 rfl (lv_at hl 2 rfl) ?_
        obtain ⟨q_11, hc_12, hF⟩ := bnd_some hF
        refine cV_i (As := [.int v2]) (rest := []) C X (c_X12_at l D hT aT yT gT v2 q_11 hc_12 _) (cwV 1 hts (good_V q8_77 q8_79 q0_67 q1_9 q8_80) rfl rfl rfl (by decide +kernel) ⟨Nat.le_of_ble_eq_true rfl, Nat.le_of_ble_eq_true rfl⟩) (va_recv X.1 X.2.1 (ci := 12) (q0 := 0) rfl rfl) X.1 X.2.1 X.2.2.1 (free_all X) hl.1 rfl rfl (Nat.le_of_ble_eq_true rfl) dX12_number_36 ⟨Nat.le_of_ble_eq_true rfl, Nat.le_of_ble_eq_true rfl⟩ (fun t H1 locs1 ht hB hk hS => ?_)
        have X : Hx D (tX12 yT) A s H1 locs1 (wX12 hT aT yT gT) := Hx_after_all X ht hB hS
        clear hk hS ht hB
        generalize H1 = H at X ⊢
        generalize locs1 = locs at X ⊢
        refine lv_bipush (v := (45 : Int32)) hx hb dX12_number_39 (by decide) ?_
        refine lv_icmp_ne (tgt := 62) hx hb dX12_number_41 (by decide) (fun c => ?_) (fun c => ?_)
        · replace hF := iF c hF
          exact (k_X12_number_62 l D hT aT yT n rec IH) C X (lv_sub hl [0, 1, 2] rfl) hF
        · replace hF := iT c hF
          refine lv_aload_n hx hb dX12_number_44 rfl (lv_at hl 0 rfl) ?_
          refine lv_iload_n hx hb dX12_number_45 rfl (lv_at hl 2 rfl) ?_
          refine lv_iconst (v := (1 : Int32)) hx hb dX12_number_46 (by decide) ?_
          refine lv_isub hx hb dX12_number_47 ?_
          obtain ⟨q_61, hc_62, hF⟩ := bnd_some hF
          refine cV_i (As := [.int (v2 - (1 : Int32))]) (rest := []) C X (c_X12_at l D hT aT yT gT (v2 - (1 : Int32)) q_61 hc_62 _) (cwV 1 hts (good_V q8_77 q8_79 q0_67 q1_9 q8_80) rfl rfl rfl (by decide +kernel) ⟨Nat.le_of_ble_eq_true rfl, Nat.le_of_ble_eq_true rfl⟩) (va_recv X.1 X.2.1 (ci := 12) (q0 := 0) rfl rfl) X.1 X.2.1 X.2.2.1 (free_all X) hl.1 rfl rfl (Nat.le_of_ble_eq_true rfl) dX12_number_48 ⟨Nat.le_of_ble_eq_true rfl, Nat.le_of_ble_eq_true rfl⟩ (fun t H1 locs1 ht hB hk hS => ?_)
          have X : Hx D (tX12 yT) A s H1 locs1 (wX12 hT aT yT gT) := Hx_after_all X ht hB hS
          clear hk hS ht hB
          generalize H1 = H at X ⊢
          generalize locs1 = locs at X ⊢
          refine lv_bipush (v := (112 : Int32)) hx hb dX12_number_51 (by decide) ?_
          refine lv_icmp_ne (tgt := 62) hx hb dX12_number_53 (by decide) (fun c => ?_) (fun c => ?_)
          · replace hF := iF c hF
            exact (k_X12_number_62 l D hT aT yT n rec IH) C X (lv_sub hl [0, 1, 2] rfl) hF
          · replace hF := iT c hF
            exact (k_X12_number_56 l D hT aT yT n rec IH) C X (lv_sub hl [0, 1, 2] rfl) hF
theorem kL_X12_number (l : Launch) (D : Dx) (hT : Nat) (aT : Nat → Nat) (yT : Nat → ClassId) (n : Nat) : ∀ k, SH_X12_number l D hT aT yT (L_X12_number n k)
  | 0 => ⟨(fun _ _ _ h => by cases h), (fun _ _ _ h => by cases h), (fun _ _ _ h => by cases h)⟩
  | k + 1 => ⟨k_X12_number_2 l D hT aT yT n _ (kL_X12_number l D hT aT yT n k), k_X12_number_79 l D hT aT yT n _ (kL_X12_number l D hT aT yT n k), k_X12_number_278 l D hT aT yT n _ (kL_X12_number l D hT aT yT n k)⟩
set_option maxHeartbeats 4000000 in
set_option maxRecDepth 100000 in
theorem c_X12_number (l : Launch) (D : Dx) (hT : Nat) (aT : Nat → Nat) (yT : Nat → ClassId) (n : Nat) (gT : Gs) (x0 : Int32) (q : Gs) (hF : f_X12_number n gT x0 = some q) (sz : Nat) : Met l yX12_number (ws_ yX12_number cX12_number 16 none) R_X12_number (PC D (tX12 yT) [.ref hT, .int x0] (wX12 hT aT yT gT) sz) (QV D (va_A (wX12 hT aT yT gT) sz) (wX12 hT aT yT q)) 0 0 (va_A (wX12 hT aT yT gT) sz) := by
  refine Met.ofW (cc := cX12_number) (maxL := 16) (ret := none) (by decide) rfl ?_
  intro p e s m args below meth c s₁ B hml hv
  obtain ⟨rfl, hsz, hP, hK, hD, hN⟩ := hv
  subst hsz
  have C : Cx p s m _ meth c cX12_number none 16 RX12 lw_all := Cx_of B hml
  have X := Hx_start hP hK hD hN
  obtain ⟨hx, hb, hr, -, hown, hts, hlk⟩ := id C
  generalize va_A (wX12 hT aT yT gT) s.heap.size = A at X ⊢
  have hl := lv_entry ([.ref hT, .int x0]) (n := 16) (Nat.le_of_ble_eq_true rfl)
  rw [lg_entry_eq]
  generalize (lg_sl ([.ref hT, .int x0]) ++ List.replicate (16 - (lg_sl ([.ref hT, .int x0])).length) Slot.unset).toArray = ls at hl ⊢
  have hl : lv_has ls 16 [(0, .ref hT), (1, .int x0)] := hl
  unfold f_X12_number at hF
  refine lv_iload_n hx hb dX12_number_0 rfl (lv_at hl 1 rfl) ?_
  refine lv_istore_n (lv' := [(2, .int x0), (0, .ref hT), (1, .int x0)]) hx hb dX12_number_1 rfl hl (by decide) rfl (fun ls hl => ?_)
  exact (kL_X12_number l D hT aT yT n n).1 C X (lv_sub hl [1, 2, 0] rfl) hF

/-! ### X12_sign -/
theorem dX12_sign_0 : decode cX12_sign 0 = .ok (.aload_n 0, 1) := by decide +kernel
theorem dX12_sign_1 : decode cX12_sign 1 = .ok (.iload_n 1, 1) := by decide +kernel
theorem dX12_sign_2 : decode cX12_sign 2 = .ok (.invokevirtual 505, 3) := by decide +kernel
theorem dX12_sign_5 : decode cX12_sign 5 = .ok (.istore_n 2, 1) := by decide +kernel
theorem dX12_sign_6 : decode cX12_sign 6 = .ok (.aload_n 0, 1) := by decide +kernel
theorem dX12_sign_7 : decode cX12_sign 7 = .ok (.iload_n 1, 1) := by decide +kernel
theorem dX12_sign_8 : decode cX12_sign 8 = .ok (.iconst 1, 1) := by decide +kernel
theorem dX12_sign_9 : decode cX12_sign 9 = .ok (.iadd, 1) := by decide +kernel
theorem dX12_sign_10 : decode cX12_sign 10 = .ok (.invokevirtual 505, 3) := by decide +kernel
theorem dX12_sign_13 : decode cX12_sign 13 = .ok (.istore_n 3, 1) := by decide +kernel
theorem dX12_sign_14 : decode cX12_sign 14 = .ok (.iload_n 3, 1) := by decide +kernel
theorem dX12_sign_15 : decode cX12_sign 15 = .ok (.bipush 61, 2) := by decide +kernel
theorem dX12_sign_17 : decode cX12_sign 17 = .ok (.if_icmp .ne 31, 3) := by decide +kernel
theorem dX12_sign_20 : decode cX12_sign 20 = .ok (.iload_n 2, 1) := by decide +kernel
theorem dX12_sign_21 : decode cX12_sign 21 = .ok (.bipush 60, 2) := by decide +kernel
theorem dX12_sign_23 : decode cX12_sign 23 = .ok (.if_icmp .eq 21, 3) := by decide +kernel
theorem dX12_sign_26 : decode cX12_sign 26 = .ok (.iload_n 2, 1) := by decide +kernel
theorem dX12_sign_27 : decode cX12_sign 27 = .ok (.bipush 62, 2) := by decide +kernel
theorem dX12_sign_29 : decode cX12_sign 29 = .ok (.if_icmp .eq 15, 3) := by decide +kernel
theorem dX12_sign_32 : decode cX12_sign 32 = .ok (.iload_n 2, 1) := by decide +kernel
theorem dX12_sign_33 : decode cX12_sign 33 = .ok (.bipush 61, 2) := by decide +kernel
theorem dX12_sign_35 : decode cX12_sign 35 = .ok (.if_icmp .eq 9, 3) := by decide +kernel
theorem dX12_sign_38 : decode cX12_sign 38 = .ok (.iload_n 2, 1) := by decide +kernel
theorem dX12_sign_39 : decode cX12_sign 39 = .ok (.bipush 33, 2) := by decide +kernel
theorem dX12_sign_41 : decode cX12_sign 41 = .ok (.if_icmp .ne 7, 3) := by decide +kernel
theorem dX12_sign_44 : decode cX12_sign 44 = .ok (.iconst 1, 1) := by decide +kernel
theorem dX12_sign_45 : decode cX12_sign 45 = .ok (.goto 4, 3) := by decide +kernel
theorem dX12_sign_48 : decode cX12_sign 48 = .ok (.iconst 0, 1) := by decide +kernel
theorem dX12_sign_49 : decode cX12_sign 49 = .ok (.istore 4, 2) := by decide +kernel
theorem dX12_sign_51 : decode cX12_sign 51 = .ok (.iload_n 2, 1) := by decide +kernel
theorem dX12_sign_52 : decode cX12_sign 52 = .ok (.bipush 38, 2) := by decide +kernel
theorem dX12_sign_54 : decode cX12_sign 54 = .ok (.if_icmp .eq 9, 3) := by decide +kernel
theorem dX12_sign_57 : decode cX12_sign 57 = .ok (.iload_n 2, 1) := by decide +kernel
theorem dX12_sign_58 : decode cX12_sign 58 = .ok (.bipush 124, 2) := by decide +kernel
theorem dX12_sign_60 : decode cX12_sign 60 = .ok (.if_icmp .ne 12, 3) := by decide +kernel
theorem dX12_sign_63 : decode cX12_sign 63 = .ok (.iload_n 3, 1) := by decide +kernel
theorem dX12_sign_64 : decode cX12_sign 64 = .ok (.iload_n 2, 1) := by decide +kernel
theorem dX12_sign_65 : decode cX12_sign 65 = .ok (.if_icmp .ne 7, 3) := by decide +kernel
theorem dX12_sign_68 : decode cX12_sign 68 = .ok (.iconst 1, 1) := by decide +kernel
theorem dX12_sign_69 : decode cX12_sign 69 = .ok (.goto 4, 3) := by decide +kernel
theorem dX12_sign_72 : decode cX12_sign 72 = .ok (.iconst 0, 1) := by decide +kernel
theorem dX12_sign_73 : decode cX12_sign 73 = .ok (.istore 5, 2) := by decide +kernel
theorem dX12_sign_75 : decode cX12_sign 75 = .ok (.iload 4, 2) := by decide +kernel
theorem dX12_sign_77 : decode cX12_sign 77 = .ok (.ifCond .eq 53, 3) := by decide +kernel
theorem dX12_sign_80 : decode cX12_sign 80 = .ok (.aload_n 0, 1) := by decide +kernel
theorem dX12_sign_81 : decode cX12_sign 81 = .ok (.iload_n 2, 1) := by decide +kernel
theorem dX12_sign_82 : decode cX12_sign 82 = .ok (.bipush 60, 2) := by decide +kernel
theorem dX12_sign_84 : decode cX12_sign 84 = .ok (.if_icmp .ne 9, 3) := by decide +kernel
theorem dX12_sign_87 : decode cX12_sign 87 = .ok (.sipush 188, 3) := by decide +kernel
theorem dX12_sign_90 : decode cX12_sign 90 = .ok (.goto 30, 3) := by decide +kernel
theorem dX12_sign_93 : decode cX12_sign 93 = .ok (.iload_n 2, 1) := by decide +kernel
theorem dX12_sign_94 : decode cX12_sign 94 = .ok (.bipush 62, 2) := by decide +kernel
theorem dX12_sign_96 : decode cX12_sign 96 = .ok (.if_icmp .ne 9, 3) := by decide +kernel
theorem dX12_sign_99 : decode cX12_sign 99 = .ok (.sipush 190, 3) := by decide +kernel
theorem dX12_sign_102 : decode cX12_sign 102 = .ok (.goto 18, 3) := by decide +kernel
theorem dX12_sign_105 : decode cX12_sign 105 = .ok (.iload_n 2, 1) := by decide +kernel
theorem dX12_sign_106 : decode cX12_sign 106 = .ok (.bipush 61, 2) := by decide +kernel
theorem dX12_sign_108 : decode cX12_sign 108 = .ok (.if_icmp .ne 9, 3) := by decide +kernel
theorem dX12_sign_111 : decode cX12_sign 111 = .ok (.sipush 189, 3) := by decide +kernel
theorem dX12_sign_114 : decode cX12_sign 114 = .ok (.goto 6, 3) := by decide +kernel
theorem dX12_sign_117 : decode cX12_sign 117 = .ok (.sipush 161, 3) := by decide +kernel
theorem dX12_sign_120 : decode cX12_sign 120 = .ok (.iload_n 1, 1) := by decide +kernel
theorem dX12_sign_121 : decode cX12_sign 121 = .ok (.iload_n 1, 1) := by decide +kernel
theorem dX12_sign_122 : decode cX12_sign 122 = .ok (.iconst 2, 1) := by decide +kernel
theorem dX12_sign_123 : decode cX12_sign 123 = .ok (.iadd, 1) := by decide +kernel
theorem dX12_sign_124 : decode cX12_sign 124 = .ok (.invokevirtual 509, 3) := by decide +kernel
theorem dX12_sign_127 : decode cX12_sign 127 = .ok (.goto 157, 3) := by decide +kernel
theorem dX12_sign_130 : decode cX12_sign 130 = .ok (.iload 5, 2) := by decide +kernel
theorem dX12_sign_132 : decode cX12_sign 132 = .ok (.ifCond .eq 29, 3) := by decide +kernel
theorem dX12_sign_135 : decode cX12_sign 135 = .ok (.aload_n 0, 1) := by decide +kernel
theorem dX12_sign_136 : decode cX12_sign 136 = .ok (.iload_n 2, 1) := by decide +kernel
theorem dX12_sign_137 : decode cX12_sign 137 = .ok (.bipush 38, 2) := by decide +kernel
theorem dX12_sign_139 : decode cX12_sign 139 = .ok (.if_icmp .ne 9, 3) := by decide +kernel
theorem dX12_sign_142 : decode cX12_sign 142 = .ok (.sipush 166, 3) := by decide +kernel
theorem dX12_sign_145 : decode cX12_sign 145 = .ok (.goto 6, 3) := by decide +kernel
theorem dX12_sign_148 : decode cX12_sign 148 = .ok (.sipush 252, 3) := by decide +kernel
theorem dX12_sign_151 : decode cX12_sign 151 = .ok (.iload_n 1, 1) := by decide +kernel
theorem dX12_sign_152 : decode cX12_sign 152 = .ok (.iload_n 1, 1) := by decide +kernel
theorem dX12_sign_153 : decode cX12_sign 153 = .ok (.iconst 2, 1) := by decide +kernel
theorem dX12_sign_154 : decode cX12_sign 154 = .ok (.iadd, 1) := by decide +kernel
theorem dX12_sign_155 : decode cX12_sign 155 = .ok (.invokevirtual 509, 3) := by decide +kernel
theorem dX12_sign_158 : decode cX12_sign 158 = .ok (.goto 126, 3) := by decide +kernel
theorem dX12_sign_161 : decode cX12_sign 161 = .ok (.iload_n 2, 1) := by decide +kernel
theorem dX12_sign_162 : decode cX12_sign 162 = .ok (.bipush 58, 2) := by decide +kernel
theorem dX12_sign_164 : decode cX12_sign 164 = .ok (.if_icmp .eq 99, 3) := by decide +kernel
theorem dX12_sign_167 : decode cX12_sign 167 = .ok (.iload_n 2, 1) := by decide +kernel
theorem dX12_sign_168 : decode cX12_sign 168 = .ok (.bipush 59, 2) := by decide +kernel
theorem dX12_sign_170 : decode cX12_sign 170 = .ok (.if_icmp .eq 93, 3) := by decide +kernel
theorem dX12_sign_173 : decode cX12_sign 173 = .ok (.iload_n 2, 1) := by decide +kernel
theorem dX12_sign_174 : decode cX12_sign 174 = .ok (.bipush 44, 2) := by decide +kernel
theorem dX12_sign_176 : decode cX12_sign 176 = .ok (.if_icmp .eq 87, 3) := by decide +kernel
theorem dX12_sign_179 : decode cX12_sign 179 = .ok (.iload_n 2, 1) := by decide +kernel
theorem dX12_sign_180 : decode cX12_sign 180 = .ok (.bipush 61, 2) := by decide +kernel
theorem dX12_sign_182 : decode cX12_sign 182 = .ok (.if_icmp .eq 81, 3) := by decide +kernel
theorem dX12_sign_185 : decode cX12_sign 185 = .ok (.iload_n 2, 1) := by decide +kernel
theorem dX12_sign_186 : decode cX12_sign 186 = .ok (.bipush 63, 2) := by decide +kernel
theorem dX12_sign_188 : decode cX12_sign 188 = .ok (.if_icmp .eq 75, 3) := by decide +kernel
theorem dX12_sign_191 : decode cX12_sign 191 = .ok (.iload_n 2, 1) := by decide +kernel
theorem dX12_sign_192 : decode cX12_sign 192 = .ok (.bipush 40, 2) := by decide +kernel
theorem dX12_sign_194 : decode cX12_sign 194 = .ok (.if_icmp .eq 69, 3) := by decide +kernel
theorem dX12_sign_197 : decode cX12_sign 197 = .ok (.iload_n 2, 1) := by decide +kernel
theorem dX12_sign_198 : decode cX12_sign 198 = .ok (.bipush 41, 2) := by decide +kernel
theorem dX12_sign_200 : decode cX12_sign 200 = .ok (.if_icmp .eq 63, 3) := by decide +kernel
theorem dX12_sign_203 : decode cX12_sign 203 = .ok (.iload_n 2, 1) := by decide +kernel
theorem dX12_sign_204 : decode cX12_sign 204 = .ok (.bipush 91, 2) := by decide +kernel
theorem dX12_sign_206 : decode cX12_sign 206 = .ok (.if_icmp .eq 57, 3) := by decide +kernel
theorem dX12_sign_209 : decode cX12_sign 209 = .ok (.iload_n 2, 1) := by decide +kernel
theorem dX12_sign_210 : decode cX12_sign 210 = .ok (.bipush 93, 2) := by decide +kernel
theorem dX12_sign_212 : decode cX12_sign 212 = .ok (.if_icmp .eq 51, 3) := by decide +kernel
theorem dX12_sign_215 : decode cX12_sign 215 = .ok (.iload_n 2, 1) := by decide +kernel
theorem dX12_sign_216 : decode cX12_sign 216 = .ok (.bipush 43, 2) := by decide +kernel
theorem dX12_sign_218 : decode cX12_sign 218 = .ok (.if_icmp .eq 45, 3) := by decide +kernel
theorem dX12_sign_221 : decode cX12_sign 221 = .ok (.iload_n 2, 1) := by decide +kernel
theorem dX12_sign_222 : decode cX12_sign 222 = .ok (.bipush 45, 2) := by decide +kernel
theorem dX12_sign_224 : decode cX12_sign 224 = .ok (.if_icmp .eq 39, 3) := by decide +kernel
theorem dX12_sign_227 : decode cX12_sign 227 = .ok (.iload_n 2, 1) := by decide +kernel
theorem dX12_sign_228 : decode cX12_sign 228 = .ok (.bipush 42, 2) := by decide +kernel
theorem dX12_sign_230 : decode cX12_sign 230 = .ok (.if_icmp .eq 33, 3) := by decide +kernel
theorem dX12_sign_233 : decode cX12_sign 233 = .ok (.iload_n 2, 1) := by decide +kernel
theorem dX12_sign_234 : decode cX12_sign 234 = .ok (.bipush 47, 2) := by decide +kernel
theorem dX12_sign_236 : decode cX12_sign 236 = .ok (.if_icmp .eq 27, 3) := by decide +kernel
theorem dX12_sign_239 : decode cX12_sign 239 = .ok (.iload_n 2, 1) := by decide +kernel
theorem dX12_sign_240 : decode cX12_sign 240 = .ok (.bipush 37, 2) := by decide +kernel
theorem dX12_sign_242 : decode cX12_sign 242 = .ok (.if_icmp .eq 21, 3) := by decide +kernel
theorem dX12_sign_245 : decode cX12_sign 245 = .ok (.iload_n 2, 1) := by decide +kernel
theorem dX12_sign_246 : decode cX12_sign 246 = .ok (.bipush 33, 2) := by decide +kernel
theorem dX12_sign_248 : decode cX12_sign 248 = .ok (.if_icmp .eq 15, 3) := by decide +kernel
theorem dX12_sign_251 : decode cX12_sign 251 = .ok (.iload_n 2, 1) := by decide +kernel
theorem dX12_sign_252 : decode cX12_sign 252 = .ok (.bipush 60, 2) := by decide +kernel
theorem dX12_sign_254 : decode cX12_sign 254 = .ok (.if_icmp .eq 9, 3) := by decide +kernel
theorem dX12_sign_257 : decode cX12_sign 257 = .ok (.iload_n 2, 1) := by decide +kernel
theorem dX12_sign_258 : decode cX12_sign 258 = .ok (.bipush 62, 2) := by decide +kernel
theorem dX12_sign_260 : decode cX12_sign 260 = .ok (.if_icmp .ne 15, 3) := by decide +kernel
theorem dX12_sign_263 : decode cX12_sign 263 = .ok (.aload_n 0, 1) := by decide +kernel
theorem dX12_sign_264 : decode cX12_sign 264 = .ok (.iload_n 2, 1) := by decide +kernel
theorem dX12_sign_265 : decode cX12_sign 265 = .ok (.iload_n 1, 1) := by decide +kernel
theorem dX12_sign_266 : decode cX12_sign 266 = .ok (.iload_n 1, 1) := by decide +kernel
theorem dX12_sign_267 : decode cX12_sign 267 = .ok (.iconst 1, 1) := by decide +kernel
theorem dX12_sign_268 : decode cX12_sign 268 = .ok (.iadd, 1) := by decide +kernel
theorem dX12_sign_269 : decode cX12_sign 269 = .ok (.invokevirtual 509, 3) := by decide +kernel
theorem dX12_sign_272 : decode cX12_sign 272 = .ok (.goto 12, 3) := by decide +kernel
theorem dX12_sign_275 : decode cX12_sign 275 = .ok (.aload_n 0, 1) := by decide +kernel
theorem dX12_sign_276 : decode cX12_sign 276 = .ok (.iconst 1, 1) := by decide +kernel
theorem dX12_sign_277 : decode cX12_sign 277 = .ok (.iload_n 1, 1) := by decide +kernel
theorem dX12_sign_278 : decode cX12_sign 278 = .ok (.iload_n 1, 1) := by decide +kernel
theorem dX12_sign_279 : decode cX12_sign 279 = .ok (.iconst 1, 1) := by decide +kernel
theorem dX12_sign_280 : decode cX12_sign 280 = .ok (.iadd, 1) := by decide +kernel
theorem dX12_sign_281 : decode cX12_sign 281 = .ok (.invokevirtual 509, 3) := by decide +kernel
theorem dX12_sign_284 : decode cX12_sign 284 = .ok (.return_, 1) := by decide +kernel
abbrev R_X12_sign : Room := ({ frames := 1, cells := 0, slots := 0, locals := 23 } : Room)
def b_X12_sign_263 (gT : Gs) (v1 : Int32) (v2 : Int32) : Option (Gs) :=
  bnd (f_X12_token gT v2 v1 (v1 + (1 : Int32))) (fun q_5 => some q_5)
def b_X12_sign_151 (gT : Gs) (v1 : Int32) (s0 : Int32) : Option (Gs) :=
  bnd (f_X12_token gT s0 v1 (v1 + (2 : Int32))) (fun q_9 => some q_9)
def b_X12_sign_120 (gT : Gs) (v1 : Int32) (s0 : Int32) : Option (Gs) :=
  bnd (f_X12_token gT s0 v1 (v1 + (2 : Int32))) (fun q_11 => some q_11)
def b_X12_sign_73 (gT : Gs) (v1 : Int32) (v2 : Int32) (v4 : Int32) (s0 : Int32) : Option (Gs) :=
  if v4 = 0 then (if s0 = 0 then (if v2 = (58 : Int32) then (b_X12_sign_263 gT v1 v2) else (if v2 = (59 : Int32) then (b_X12_sign_263 gT v1 v2) else (if v2 = (44 : Int32) then (b_X12_sign_263 gT v1 v2) else (if v2 = (61 : Int32) then (b_X12_sign_263 gT v1 v2) else (if v2 = (63 : Int32) then (b_X12_sign_263 gT v1 v2) else (if v2 = (40 : Int32) then (b_X12_sign_263 gT v1 v2) else (if v2 = (41 : Int32) then (b_X12_sign_263 gT v1 v2) else (if v2 = (91 : Int32) then (b_X12_sign_263 gT v1 v2) else (if v2 = (93 : Int32) then (b_X12_sign_263 gT v1 v2) else (if v2 = (43 : Int32) then (b_X12_sign_263 gT v1 v2) else (if v2 = (45 : Int32) then (b_X12_sign_263 gT v1 v2) else (if v2 = (42 : Int32) then (b_X12_sign_263 gT v1 v2) else (if v2 = (47 : Int32) then (b_X12_sign_263 gT v1 v2) else (if v2 = (37 : Int32) then (b_X12_sign_263 gT v1 v2) else (if v2 = (33 : Int32) then (b_X12_sign_263 gT v1 v2) else (if v2 = (60 : Int32) then (b_X12_sign_263 gT v1 v2) else (if v2 = (62 : Int32) then (b_X12_sign_263 gT v1 v2) else (bnd (f_X12_token gT (1 : Int32) v1 (v1 + (1 : Int32))) (fun q_7 => some q_7))))))))))))))))))) else (if v2 = (38 : Int32) then (b_X12_sign_151 gT v1 (166 : Int32)) else (b_X12_sign_151 gT v1 (252 : Int32)))) else (if v2 = (60 : Int32) then (b_X12_sign_120 gT v1 (188 : Int32)) else (if v2 = (62 : Int32) then (b_X12_sign_120 gT v1 (190 : Int32)) else (if v2 = (61 : Int32) then (b_X12_sign_120 gT v1 (189 : Int32)) else (b_X12_sign_120 gT v1 (161 : Int32)))))
def b_X12_sign_72 (gT : Gs) (v1 : Int32) (v2 : Int32) (v4 : Int32) : Option (Gs) :=
  b_X12_sign_73 gT v1 v2 v4 (0 : Int32)
def b_X12_sign_63 (gT : Gs) (v1 : Int32) (v2 : Int32) (v3 : Int32) (v4 : Int32) : Option (Gs) :=
  if v3 = v2 then (b_X12_sign_73 gT v1 v2 v4 (1 : Int32)) else (b_X12_sign_72 gT v1 v2 v4)
def b_X12_sign_49 (gT : Gs) (v1 : Int32) (v2 : Int32) (v3 : Int32) (s0 : Int32) : Option (Gs) :=
  if v2 = (38 : Int32) then (b_X12_sign_63 gT v1 v2 v3 s0) else (if v2 = (124 : Int32) then (b_X12_sign_63 gT v1 v2 v3 s0) else (b_X12_sign_72 gT v1 v2 s0))
def b_X12_sign_48 (gT : Gs) (v1 : Int32) (v2 : Int32) (v3 : Int32) : Option (Gs) :=
  b_X12_sign_49 gT v1 v2 v3 (0 : Int32)
def b_X12_sign_44 (gT : Gs) (v1 : Int32) (v2 : Int32) (v3 : Int32) : Option (Gs) :=
  b_X12_sign_49 gT v1 v2 v3 (1 : Int32)
def f_X12_sign (gT : Gs) (x0 : Int32) : Option (Gs) :=
  bnd (f_X12_at gT x0) (fun q_1 => bnd (f_X12_at gT (x0 + (1 : Int32))) (fun q_3 => if q_3 = (61 : Int32) then (if q_1 = (60 : Int32) then (b_X12_sign_44 gT x0 q_1 q_3) else (if q_1 = (62 : Int32) then (b_X12_sign_44 gT x0 q_1 q_3) else (if q_1 = (61 : Int32) then (b_X12_sign_44 gT x0 q_1 q_3) else (if q_1 = (33 : Int32) then (b_X12_sign_44 gT x0 q_1 q_3) else (b_X12_sign_48 gT x0 q_1 q_3))))) else (b_X12_sign_48 gT x0 q_1 q_3)))
def S_X12_sign_263 (l : Launch) (D : Dx) (hT : Nat) (aT : Nat → Nat) (yT : Nat → ClassId) (fn : Gs → Int32 → Int32 → Option (Gs)) : Prop :=
  ∀ {p : Program} {e : Env} {s : State} {m : MethodId} {args : Array Value} {below : List Frame} {meth : Method} {c : Code} {H : Heap} {locs : List Loc} {A : Nat → Prop} {ls : Array Slot} {gT : Gs} {v1 : Int32} {v2 : Int32} {q : Gs}, Cx p s m args meth c cX12_sign none 6 RX12 lw_all → Hx D (tX12 yT) A s H locs (wX12 hT aT yT gT) → lv_has ls 6 [(0, .ref hT), (1, .int v1), (2, .int v2)] → fn gT v1 v2 = some q → W p l e R_X12_sign s m args below meth c H locs 0 0 (MQ below (QV D A (wX12 hT aT yT q)) args s 0 0 A) (F0 m 263 ls [])
def S_X12_sign_151 (l : Launch) (D : Dx) (hT : Nat) (aT : Nat → Nat) (yT : Nat → ClassId) (fn : Gs → Int32 → Int32 → Option (Gs)) : Prop :=
  ∀ {p : Program} {e : Env} {s : State} {m : MethodId} {args : Array Value} {below : List Frame} {meth : Method} {c : Code} {H : Heap} {locs : List Loc} {A : Nat → Prop} {ls : Array Slot} {gT : Gs} {v1 : Int32} {s0 : Int32} {q : Gs}, Cx p s m args meth c cX12_sign none 6 RX12 lw_all → Hx D (tX12 yT) A s H locs (wX12 hT aT yT gT) → lv_has ls 6 [(1, .int v1)] → fn gT v1 s0 = some q → W p l e R_X12_sign s m args below meth c H locs 0 0 (MQ below (QV D A (wX12 hT aT yT q)) args s 0 0 A) (F0 m 151 ls [.int s0, .ref hT])
def S_X12_sign_120 (l : Launch) (D : Dx) (hT : Nat) (aT : Nat → Nat) (yT : Nat → ClassId) (fn : Gs → Int32 → Int32 → Option (Gs)) : Prop :=
  ∀ {p : Program} {e : Env} {s : State} {m : MethodId} {args : Array Value} {below : List Frame} {meth : Method} {c : Code} {H : Heap} {locs : List Loc} {A : Nat → Prop} {ls : Array Slot} {gT : Gs} {v1 : Int32} {s0 : Int32} {q : Gs}, Cx p s m args meth c cX12_sign none 6 RX12 lw_all → Hx D (tX12 yT) A s H locs (wX12 hT aT yT gT) → lv_has ls 6 [(1, .int v1)] → fn gT v1 s0 = some q → W p l e R_X12_sign s m args below meth c H locs 0 0 (MQ below (QV D A (wX12 hT aT yT q)) args s 0 0 A) (F0 m 120 ls [.int s0, .ref hT])
def S_X12_sign_73 (l : Launch) (D : Dx) (hT : Nat) (aT : Nat → Nat) (yT : Nat → ClassId) (fn : Gs → Int32 → Int32 → Int32 → Int32 → Option (Gs)) : Prop :=
  ∀ {p : Program} {e : Env} {s : State} {m : MethodId} {args : Array Value} {below : List Frame} {meth : Method} {c : Code} {H : Heap} {locs : List Loc} {A : Nat → Prop} {ls : Array Slot} {gT : Gs} {v1 : Int32} {v2 : Int32} {v4 : Int32} {s0 : Int32} {q : Gs}, Cx p s m args meth c cX12_sign none 6 RX12 lw_all → Hx D (tX12 yT) A s H locs (wX12 hT aT yT gT) → lv_has ls 6 [(0, .ref hT), (1, .int v1), (2, .int v2), (4, .int v4)] → fn gT v1 v2 v4 s0 = some q → W p l e R_X12_sign s m args below meth c H locs 0 0 (MQ below (QV D A (wX12 hT aT yT q)) args s 0 0 A) (F0 m 73 ls [.int s0])
def S_X12_sign_72 (l : Launch) (D : Dx) (hT : Nat) (aT : Nat → Nat) (yT : Nat → ClassId) (fn : Gs → Int32 → Int32 → Int32 → Option (Gs)) : Prop :=
  ∀ {p : Program} {e : Env} {s : State} {m : MethodId} {args : Array Value} {below : List Frame} {meth : Method} {c : Code} {H : Heap} {locs : List Loc} {A : Nat → Prop} {ls : Array Slot} {gT : Gs} {v1 : Int32} {v2 : Int32} {v4 : Int32} {q : Gs}, Cx p s m args meth c cX12_sign none 6 RX12 lw_all → Hx D (tX12 yT) A s H locs (wX12 hT aT yT gT) → lv_has ls 6 [(0, .ref hT), (1, .int v1), (2, .int v2), (4, .int v4)] → fn gT v1 v2 v4 = some q → W p l e R_X12_sign s m args below meth c H locs 0 0 (MQ below (QV D A (wX12 hT aT yT q)) args s 0 0 A) (F0 m 72 ls [])
def S_X12_sign_63 (l : Launch) (D : Dx) (hT : Nat) (aT : Nat → Nat) (yT : Nat → ClassId) (fn : Gs → Int32 → Int32 → Int32 → Int32 → Option (Gs)) : Prop :=
  ∀ {p : Program} {e : Env} {s : State} {m : MethodId} {args : Array Value} {below : List Frame} {meth : Method} {c : Code} {H : Heap} {locs : List Loc} {A : Nat → Prop} {ls : Array Slot} {gT : Gs} {v1 : Int32} {v2 : Int32} {v3 : Int32} {v4 : Int32} {q : Gs}, Cx p s m args meth c cX12_sign none 6 RX12 lw_all → Hx D (tX12 yT) A s H locs (wX12 hT aT yT gT) → lv_has ls 6 [(0, .ref hT), (1, .int v1), (2, .int v2), (3, .int v3), (4, .int v4)] → fn gT v1 v2 v3 v4 = some q → W p l e R_X12_sign s m args below meth c H locs 0 0 (MQ below (QV D A (wX12 hT aT yT q)) args s 0 0 A) (F0 m 63 ls [])
def S_X12_sign_49 (l : Launch) (D : Dx) (hT : Nat) (aT : Nat → Nat) (yT : Nat → ClassId) (fn : Gs → Int32 → Int32 → Int32 → Int32 → Option (Gs)) : Prop :=
  ∀ {p : Program} {e : Env} {s : State} {m : MethodId} {args : Array Value} {below : List Frame} {meth : Method} {c : Code} {H : Heap} {locs : List Loc} {A : Nat → Prop} {ls : Array Slot} {gT : Gs} {v1 : Int32} {v2 : Int32} {v3 : Int32} {s0 : Int32} {q : Gs}, Cx p s m args meth c cX12_sign none 6 RX12 lw_all → Hx D (tX12 yT) A s H locs (wX12 hT aT yT gT) → lv_has ls 6 [(0, .ref hT), (1, .int v1), (2, .int v2), (3, .int v3)] → fn gT v1 v2 v3 s0 = some q → W p l e R_X12_sign s m args below meth c H locs 0 0 (MQ below (QV D A (wX12 hT aT yT q)) args s 0 0 A) (F0 m 49 ls [.int s0])
def S_X12_sign_48 (l : Launch) (D : Dx) (hT : Nat) (aT : Nat → Nat) (yT : Nat → ClassId) (fn : Gs → Int32 → Int32 → Int32 → Option (Gs)) : Prop :=
  ∀ {p : Program} {e : Env} {s : State} {m : MethodId} {args : Array Value} {below : List Frame} {meth : Method} {c : Code} {H : Heap} {locs : List Loc} {A : Nat → Prop} {ls : Array Slot} {gT : Gs} {v1 : Int32} {v2 : Int32} {v3 : Int32} {q : Gs}, Cx p s m args meth c cX12_sign none 6 RX12 lw_all → Hx D (tX12 yT) A s H locs (wX12 hT aT yT gT) → lv_has ls 6 [(0, .ref hT), (1, .int v1), (2, .int v2), (3, .int v3)] → fn gT v1 v2 v3 = some q → W p l e R_X12_sign s m args below meth c H locs 0 0 (MQ below (QV D A (wX12 hT aT yT q)) args s 0 0 A) (F0 m 48 ls [])
def S_X12_sign_44 (l : Launch) (D : Dx) (hT : Nat) (aT : Nat → Nat) (yT : Nat → ClassId) (fn : Gs → Int32 → Int32 → Int32 → Option (Gs)) : Prop :=
  ∀ {p : Program} {e : Env} {s : State} {m : MethodId} {args : Array Value} {below : List Frame} {meth : Method} {c : Code} {H : Heap} {locs : List Loc} {A : Nat → Prop} {ls : Array Slot} {gT : Gs} {v1 : Int32} {v2 : Int32} {v3 : Int32} {q : Gs}, Cx p s m args meth c cX12_sign none 6 RX12 lw_all → Hx D (tX12 yT) A s H locs (wX12 hT aT yT gT) → lv_has ls 6 [(0, .ref hT), (1, .int v1), (2, .int v2), (3, .int v3)] → fn gT v1 v2 v3 = some q → W p l e R_X12_sign s m args below meth c H locs 0 0 (MQ below (QV D A (wX12 hT aT yT q)) args s 0 0 A) (F0 m 44 ls [])
set_option maxHeartbeats 4000000 in
set_option maxRecDepth 100000 in
theorem k_X12_sign_263 (l : Launch) (D : Dx) (hT : Nat) (aT : Nat → Nat) (yT : Nat → ClassId) : S_X12_sign_263 l D hT aT yT (b_X12_sign_263) := by
  intro p e s m args below meth c H locs A ls gT v1 v2 q C X hl hF
  obtain ⟨hx, hb, hr, hml, hown, hts, hlk⟩ := id C
  unfold b_X12_sign_263 at hF
  refine lv_aload_n hx hb dX12_sign_263 rfl (lv_at hl 0 rfl) ?_
  refine lv_iload_n hx hb dX12_sign_264 rfl (lv_at hl 2 rfl) ?_
  refine lv_iload_n hx hb dX12_sign_265 rfl (lv_at hl 1 rfl) ?_
  refine lv_iload_n hx hb dX12_sign_266 rfl (lv_at hl 1 rfl) ?_
  refine lv_iconst (v := (1 : Int32)) hx hb dX12_sign_267 (by decide) ?_
  refine lv_iadd hx hb dX12_sign_268 ?_
  obtain ⟨q_5, hc_6, hF⟩ := bnd_some hF
  refine cV_v (As := [.int v2, .int v1, .int (v1 + (1 : Int32))]) (rest := []) C X (c_X12_token l D hT aT yT gT v2 v1 (v1 + (1 : Int32)) q_5 hc_6 _) (cwV 3 hts (good_V q8_81 q8_83 q0_68 q1_9 q8_84) rfl rfl rfl (by decide +kernel) ⟨Nat.le_of_ble_eq_true rfl, Nat.le_of_ble_eq_true rfl⟩) (va_recv X.1 X.2.1 (ci := 12) (q0 := 0) rfl rfl) X.1 X.2.1 X.2.2.1 (free_all X) hl.1 rfl rfl (Nat.le_of_ble_eq_true rfl) dX12_sign_269 ⟨Nat.le_of_ble_eq_true rfl, Nat.le_of_ble_eq_true rfl⟩ (fun t H1 locs1 ht hB hk hS => ?_)
  have X : Hx D (tX12 yT) A s H1 locs1 (wX12 hT aT yT q_5) := Hx_after_all X ht hB hS
  clear hk hS ht hB
  generalize H1 = H at X ⊢
  generalize locs1 = locs at X ⊢
  refine lv_goto (tgt := 284) hx hb dX12_sign_272 (by decide) ?_
  have hq := Option.some.inj hF
  subst hq
  exact rt_v C X dX12_sign_284
set_option maxHeartbeats 4000000 in
set_option maxRecDepth 100000 in
theorem k_X12_sign_151 (l : Launch) (D : Dx) (hT : Nat) (aT : Nat → Nat) (yT : Nat → ClassId) : S_X12_sign_151 l D hT aT yT (b_X12_sign_151) := by
  intro p e s m args below meth c H locs A ls gT v1 s0 q C X hl hF
  obtain ⟨hx, hb, hr, hml, hown, hts, hlk⟩ := id C
  unfold b_X12_sign_151 at hF
  refine lv_iload_n hx hb dX12_sign_151 rfl (lv_at hl 0 rfl) ?_
  refine lv_iload_n hx hb dX12_sign_152 rfl (lv_at hl 0 rfl) ?_
  refine lv_iconst (v := (2 : Int32)) hx hb dX12_sign_153 (by decide) ?_
  refine lv_iadd hx hb dX12_sign_154 ?_
  obtain ⟨q_9, hc_10, hF⟩ := bnd_some hF
  refine cV_v (As := [.int s0, .int v1, .int (v1 + (2 : Int32))]) (rest := []) C X (c_X12_token l D hT aT yT gT s0 v1 (v1 + (2 : Int32)) q_9 hc_10 _) (cwV 3 hts (good_V q8_81 q8_83 q0_68 q1_9 q8_84) rfl rfl rfl (by decide +kernel) ⟨Nat.le_of_ble_eq_true rfl, Nat.le_of_ble_eq_true rfl⟩) (va_recv X.1 X.2.1 (ci := 12) (q0 := 0) rfl rfl) X.1 X.2.1 X.2.2.1 (free_all X) hl.1 rfl rfl (Nat.le_of_ble_eq_true rfl) dX12_sign_155 ⟨Nat.le_of_ble_eq_true rfl, Nat.le_of_ble_eq_true rfl⟩ (fun t H1 locs1 ht hB hk hS => ?_)
  have X : Hx D (tX12 yT) A s H1 locs1 (wX12 hT aT yT q_9) := Hx_after_all X ht hB hS
  clear hk hS ht hB
  generalize H1 = H at X ⊢
  generalize locs1 = locs at X ⊢
  refine lv_goto (tgt := 284) hx hb dX12_sign_158 (by decide) ?_
  have hq := Option.some.inj hF
  subst hq
  exact rt_v C X dX12_sign_284
set_option maxHeartbeats 4000000 in
set_option maxRecDepth 100000 in
theorem k_X12_sign_120 (l : Launch) (D : Dx) (hT : Nat) (aT : Nat → Nat) (yT : Nat → ClassId) : S_X12_sign_120 l D hT aT yT (b_X12_sign_120) := by
  intro p e s m args below meth c H locs A ls gT v1 s0 q C X hl hF
  obtain ⟨hx, hb, hr, hml, hown, hts, hlk⟩ := id C
  unfold b_X12_sign_120 at hF
  refine lv_iload_n hx hb dX12_sign_120 rfl (lv_at hl 0 rfl) ?_
  refine lv_iload_n hx hb dX12_sign_121 rfl (lv_at hl 0 rfl) ?_
  refine lv_iconst (v := (2 : Int32)) hx hb dX12_sign_122 (by decide) ?_
  refine lv_iadd hx hb dX12_sign_123 ?_
  obtain ⟨q_11, hc_12, hF⟩ := bnd_some hF
  refine cV_v (As := [.int s0, .int v1, .int (v1 + (2 : Int32))]) (rest := []) C X (c_X12_token l D hT aT yT gT s0 v1 (v1 + (2 : Int32)) q_11 hc_12 _) (cwV 3 hts (good_V q8_81 q8_83 q0_68 q1_9 q8_84) rfl rfl rfl (by decide +kernel) ⟨Nat.le_of_ble_eq_true rfl, Nat.le_of_ble_eq_true rfl⟩) (va_recv X.1 X.2.1 (ci := 12) (q0 := 0) rfl rfl) X.1 X.2.1 X.2.2.1 (free_all X) hl.1 rfl rfl (Nat.le_of_ble_eq_true rfl) dX12_sign_124 ⟨Nat.le_of_ble_eq_true rfl, Nat.le_of_ble_eq_true rfl⟩ (fun t H1 locs1 ht hB hk hS => ?_)
  have X : Hx D (tX12 yT) A s H1 locs1 (wX12 hT aT yT q_11) := Hx_after_all X ht hB hS
  clear hk hS ht hB
  generalize H1 = H at X ⊢
  generalize locs1 = locs at X ⊢
  refine lv_goto (tgt := 284) hx hb dX12_sign_127 (by decide) ?_
  have hq := Option.some.inj hF
  subst hq
  exact rt_v C X dX12_sign_284
set_option maxHeartbeats 4000000 in
set_option maxRecDepth 100000 in
theorem k_X12_sign_73 (l : Launch) (D : Dx) (hT : Nat) (aT : Nat → Nat) (yT : Nat → ClassId) : S_X12_sign_73 l D hT aT yT (b_X12_sign_73) := by
  intro p e s m args below meth c H locs A ls gT v1 v2 v4 s0 q C X hl hF
  obtain ⟨hx, hb, hr, hml, hown, hts, hlk⟩ := id C
  unfold b_X12_sign_73 at hF
  refine lv_istore (lv' := [(5, .int s0), (0, .ref hT), (1, .int v1), (2, .int v2), (4, .int v4)]) hx hb dX12_sign_73 hl (by decide) rfl (fun ls hl => ?_)
  refine lv_iload hx hb dX12_sign_75 (lv_at hl 4 rfl) ?_
  refine lv_if_eq (tgt := 130) hx hb dX12_sign_77 (by decide) (fun c => ?_) (fun c => ?_)
  · replace hF := iT c hF
    refine lv_iload hx hb dX12_sign_130 (lv_at hl 0 rfl) ?_
    refine lv_if_eq (tgt := 161) hx hb dX12_sign_132 (by decide) (fun c => ?_) (fun c => ?_)
    · replace hF := iT c hF
      refine lv_iload_n hx hb dX12_sign_161 rfl (lv_at hl 3 rfl) ?_
      refine lv_bipush (v := (58 : Int32)) hx hb dX12_sign_162 (by decide) ?_
      refine lv_icmp_eq (tgt := 263) hx hb dX12_sign_164 (by decide) (fun c => ?_) (fun c => ?_)
      · replace hF := iT c hF
        exact (k_X12_sign_263 l D hT aT yT) C X (lv_sub hl [1, 2, 3] rfl) hF
      · replace hF := iF c hF
        refine lv_iload_n hx hb dX12_sign_167 rfl (lv_at hl 3 rfl) ?_
        refine lv_bipush (v := (59 : Int32)) hx hb dX12_sign_168 (by decide) ?_
        refine lv_icmp_eq (tgt := 263) hx hb dX12_sign_170 (by decide) (fun c => ?_) (fun c => ?_)
        · replace hF := iT c hF
          exact (k_X12_sign_263 l D hT aT yT) C X (lv_sub hl [1, 2, 3] rfl) hF
        · replace hF := iF c hF
          refine lv_iload_n hx hb dX12_sign_173 rfl (lv_at hl 3 rfl) ?_
          refine lv_bipush (v := (44 : Int32)) hx hb dX12_sign_174 (by decide) ?_
          refine lv_icmp_eq (tgt := 263) hx hb dX12_sign_176 (by decide) (fun c => ?_) (fun c => ?_)
          · replace hF := iT c hF
            exact (k_X12_sign_263 l D hT aT yT) C X (lv_sub hl [1, 2, 3] rfl) hF
          · replace hF := iF c hF
            refine lv_iload_n hx hb dX12_sign_179 rfl (lv_at hl 3 rfl) ?_
            refine lv_bipush (v := (61 : Int32)) hx hb dX12_sign_180 (by decide) ?_
            refine lv_icmp_eq (tgt := 263) hx hb dX12_sign_182 (by decide) (fun c => ?_) (fun c => ?_)
            · replace hF := iT c hF
              exact (k_X12_sign_263 l D hT aT yT) C X (lv_sub hl [1, 2, 3] rfl) hF
            · replace hF := iF c hF
              refine lv_iload_n hx hb dX12_sign_185 rfl (lv_at hl 3 rfl) ?_
              refine lv_bipush (v := (63 : Int32)) hx hb dX12_sign_186 (by decide) ?_
              refine lv_icmp_eq (tgt := 263) hx hb dX12_sign_188 (by decide) (fun c => ?_) (fun c => ?_)
              · replace hF := iT c hF
                exact (k_X12_sign_263 l D hT aT yT) C X (lv_sub hl [1, 2, 3] rfl) hF
              · replace hF := iF c hF
                refine lv_iload_n hx hb dX12_sign_191 rfl (lv_at hl 3 rfl) ?_
                refine lv_bipush (v := (40 : Int32)) hx hb dX12_sign_192 (by decide) ?_
                refine lv_icmp_eq (tgt := 263) hx hb dX12_sign_194 (by decide) (fun c => ?_) (fun c => ?_)
                · replace hF := iT c hF
                  exact (k_X12_sign_263 l D hT aT yT) C X (lv_sub hl [1, 2, 3] rfl) hF
                · replace hF := iF c hF
                  refine lv_iload_n hx hb dX12_sign_197 rfl (lv_at hl 3 rfl) ?_
                  refine lv_bipush (v := (41 : Int32)) hx hb dX12_sign_198 (by decide) ?_
                  refine lv_icmp_eq (tgt := 263) hx hb dX12_sign_200 (by decide) (fun c => ?_) (fun c => ?_)
                  · replace hF := iT c hF
                    exact (k_X12_sign_263 l D hT aT yT) C X (lv_sub hl [1, 2, 3] rfl) hF
                  · replace hF := iF c hF
                    refine lv_iload_n hx hb dX12_sign_203 rfl (lv_at hl 3 rfl) ?_
                    refine lv_bipush (v := (91 : Int32)) hx hb dX12_sign_204 (by decide) ?_
                    refine lv_icmp_eq (tgt := 263) hx hb dX12_sign_206 (by decide) (fun c => ?_) (fun c => ?_)
                    · replace hF := iT c hF
                      exact (k_X12_sign_263 l D hT aT yT) C X (lv_sub hl [1, 2, 3] rfl) hF
                    · replace hF := iF c hF
                      refine lv_iload_n hx hb dX12_sign_209 rfl (lv_at hl 3 rfl) ?_
                      refine lv_bipush (v := (93 : Int32)) hx hb dX12_sign_210 (by decide) ?_
                      refine lv_icmp_eq (tgt := 263) hx hb dX12_sign_212 (by decide) (fun c => ?_) (fun c => ?_)
                      · replace hF := iT c hF
                        exact (k_X12_sign_263 l D hT aT yT) C X (lv_sub hl [1, 2, 3] rfl) hF
                      · replace hF := iF c hF
                        refine lv_iload_n hx hb dX12_sign_215 rfl (lv_at hl 3 rfl) ?_
                        refine lv_bipush (v := (43 : Int32)) hx hb dX12_sign_216 (by decide) ?_
                        refine lv_icmp_eq (tgt := 263) hx hb dX12_sign_218 (by decide) (fun c => ?_) (fun c => ?_)
                        · replace hF := iT c hF
                          exact (k_X12_sign_263 l D hT aT yT) C X (lv_sub hl [1, 2, 3] rfl) hF
                        · replace hF := iF c hF
                          refine lv_iload_n hx hb dX12_sign_221 rfl (lv_at hl 3 rfl) ?_
                          refine lv_bipush (v := (45 : Int32)) hx hb dX12_sign_222 (by decide) ?_
                          refine lv_icmp_eq (tgt := 263) hx hb dX12_sign_224 (by decide) (fun c => ?_) (fun c => ?_)
                          · replace hF := iT c hF
                            exact (k_X12_sign_263 l D hT aT yT) C X (lv_sub hl [1, 2, 3] rfl) hF
                          · replace hF := iF c hF
                            refine lv_iload_n hx hb dX12_sign_227 rfl (lv_at hl 3 rfl) ?_
                            refine lv_bipush (v := (42 : Int32)) hx hb dX12_sign_228 (by decide) ?_
                            refine lv_icmp_eq (tgt := 263) hx hb dX12_sign_230 (by decide) (fun c => ?_) (fun c => ?_)
                            · replace hF := iT c hF
                              exact (k_X12_sign_263 l D hT aT yT) C X (lv_sub hl [1, 2, 3] rfl) hF
                            · replace hF := iF c hF
                              refine lv_iload_n hx hb dX12_sign_233 rfl (lv_at hl 3 rfl) ?_
                              refine lv_bipush (v := (47 : Int32)) hx hb dX12_sign_234 (by decide) ?_
                              refine lv_icmp_eq (tgt := 263) hx hb dX12_sign_236 (by decide) (fun c => ?_) (fun c => ?_)
                              · replace hF := iT c hF
                                exact (k_X12_sign_263 l D hT aT yT) C X (lv_sub hl [1, 2, 3] rfl) hF
                              · replace hF := iF c hF
                                refine lv_iload_n hx hb dX12_sign_239 rfl (lv_at hl 3 rfl) ?_
                                refine lv_bipush (v := (37 : Int32)) hx hb dX12_sign_240 (by decide) ?_
                                refine lv_icmp_eq (tgt := 263) hx hb dX12_sign_242 (by decide) (fun c => ?_) (fun c => ?_)
                                · replace hF := iT c hF
                                  exact (k_X12_sign_263 l D hT aT yT) C X (lv_sub hl [1, 2, 3] rfl) hF
                                · replace hF := iF c hF
                                  refine lv_iload_n hx hb dX12_sign_245 rfl (lv_at hl 3 rfl) ?_
                                  refine lv_bipush (v := (33 : Int32)) hx hb dX12_sign_246 (by decide) ?_
                                  refine lv_icmp_eq (tgt := 263) hx hb dX12_sign_248 (by decide) (fun c => ?_) (fun c => ?_)
                                  · replace hF := iT c hF
                                    exact (k_X12_sign_263 l D hT aT yT) C X (lv_sub hl [1, 2, 3] rfl) hF
                                  · replace hF := iF c hF
                                    refine lv_iload_n hx hb dX12_sign_251 rfl (lv_at hl 3 rfl) ?_
                                    refine lv_bipush (v := (60 : Int32)) hx hb dX12_sign_252 (by decide) ?_
                                    refine lv_icmp_eq (tgt := 263) hx hb dX12_sign_254 (by decide) (fun c => ?_) (fun c => ?_)
                                    · replace hF := iT c hF
                                      exact (k_X12_sign_263 l D hT aT yT) C X (lv_sub hl [1, 2, 3] rfl) hF
                                    · replace hF := iF c hF
                                      refine lv_iload_n hx hb dX12_sign_257 rfl (lv_at hl 3 rfl) ?_
                                      refine lv_bipush (v := (62 : Int32)) hx hb dX12_sign_258 (by decide) ?_
                                      refine lv_icmp_ne (tgt := 275) hx hb dX12_sign_260 (by decide) (fun c => ?_) (fun c => ?_)
                                      · replace hF := iF c hF
                                        refine lv_aload_n hx hb dX12_sign_275 rfl (lv_at hl 1 rfl) ?_
                                        refine lv_iconst (v := (1 : Int32)) hx hb dX12_sign_276 (by decide) ?_
                                        refine lv_iload_n hx hb dX12_sign_277 rfl (lv_at hl 2 rfl) ?_
                                        refine lv_iload_n hx hb dX12_sign_278 rfl (lv_at hl 2 rfl) ?_
                                        refine lv_iconst (v := (1 : Int32)) hx hb dX12_sign_279 (by decide) ?_
                                        refine lv_iadd hx hb dX12_sign_280 ?_
                                        obtain ⟨q_7, hc_8, hF⟩ := bnd_some hF
                                        refine cV_v (As := [.int (1 : Int32), .int v1, .int (v1 + (1 : Int32))]) (rest := []) C X (c_X12_token l D hT aT yT gT (1 : Int32) v1 (v1 + (1 : Int32)) q_7 hc_8 _) (cwV 3 hts (good_V q8_81 q8_83 q0_68 q1_9 q8_84) rfl rfl rfl (by decide +kernel) ⟨Nat.le_of_ble_eq_true rfl, Nat.le_of_ble_eq_true rfl⟩) (va_recv X.1 X.2.1 (ci := 12) (q0 := 0) rfl rfl) X.1 X.2.1 X.2.2.1 (free_all X) hl.1 rfl rfl (Nat.le_of_ble_eq_true rfl) dX12_sign_281 ⟨Nat.le_of_ble_eq_true rfl, Nat.le_of_ble_eq_true rfl⟩ (fun t H1 locs1 ht hB hk hS => ?_)
                                        have X : Hx D (tX12 yT) A s H1 locs1 (wX12 hT aT yT q_7) := Hx_after_all X ht hB hS
                                        clear hk hS ht hB
                                        generalize H1 = H at X ⊢
                                        generalize locs1 = locs at X ⊢
                                        have hq := Option.some.inj hF
                                        subst hq
                                        exact rt_v C X dX12_sign_284
                                      · replace hF := iT c hF
                                        exact (k_X12_sign_263 l D hT aT yT) C X (lv_sub hl [1, 2, 3] rfl) hF
    · replace hF := iF c hF
      refine lv_aload_n hx hb dX12_sign_135 rfl (lv_at hl 1 rfl) ?_
      refine lv_iload_n hx hb dX12_sign_136 rfl (lv_at hl 3 rfl) ?_
      refine lv_bipush (v := (38 : Int32)) hx hb dX12_sign_137 (by decide) ?_
      refine lv_icmp_ne (tgt := 148) hx hb dX12_sign_139 (by decide) (fun c => ?_) (fun c => ?_)
      · replace hF := iF c hF
        refine lv_sipush (v := (252 : Int32)) hx hb dX12_sign_148 (by decide) ?_
        exact (k_X12_sign_151 l D hT aT yT) C X (lv_sub hl [2] rfl) hF
      · replace hF := iT c hF
        refine lv_sipush (v := (166 : Int32)) hx hb dX12_sign_142 (by decide) ?_
        refine lv_goto (tgt := 151) hx hb dX12_sign_145 (by decide) ?_
        exact (k_X12_sign_151 l D hT aT yT) C X (lv_sub hl [2] rfl) hF
  · replace hF := iF c hF
    refine lv_aload_n hx hb dX12_sign_80 rfl (lv_at hl 1 rfl) ?_
    refine lv_iload_n hx hb dX12_sign_81 rfl (lv_at hl 3 rfl) ?_
    refine lv_bipush (v := (60 : Int32)) hx hb dX12_sign_82 (by decide) ?_
    refine lv_icmp_ne (tgt := 93) hx hb dX12_sign_84 (by decide) (fun c => ?_) (fun c => ?_)
    · replace hF := iF c hF
      refine lv_iload_n hx hb dX12_sign_93 rfl (lv_at hl 3 rfl) ?_
      refine lv_bipush (v := (62 : Int32)) hx hb dX12_sign_94 (by decide) ?_
      refine lv_icmp_ne (tgt := 105) hx hb dX12_sign_96 (by decide) (fun c => ?_) (fun c => ?_)
      · replace hF := iF c hF
        refine lv_iload_n hx hb dX12_sign_105 rfl (lv_at hl 3 rfl) ?_
        refine lv_bipush (v := (61 : Int32)) hx hb dX12_sign_106 (by decide) ?_
        refine lv_icmp_ne (tgt := 117) hx hb dX12_sign_108 (by decide) (fun c => ?_) (fun c => ?_)
        · replace hF := iF c hF
          refine lv_sipush (v := (161 : Int32)) hx hb dX12_sign_117 (by decide) ?_
          exact (k_X12_sign_120 l D hT aT yT) C X (lv_sub hl [2] rfl) hF
        · replace hF := iT c hF
          refine lv_sipush (v := (189 : Int32)) hx hb dX12_sign_111 (by decide) ?_
          refine lv_goto (tgt := 120) hx hb dX12_sign_114 (by decide) ?_
          exact (k_X12_sign_120 l D hT aT yT) C X (lv_sub hl [2] rfl) hF
      · replace hF := iT c hF
        refine lv_sipush (v := (190 : Int32)) hx hb dX12_sign_99 (by decide) ?_
        refine lv_goto (tgt := 120) hx hb dX12_sign_102 (by decide) ?_
        exact (k_X12_sign_120 l D hT aT yT) C X (lv_sub hl [2] rfl) hF
    · replace hF := iT c hF
      refine lv_sipush (v := (188 : Int32)) hx hb dX12_sign_87 (by decide) ?_
      refine lv_goto (tgt := 120) hx hb dX12_sign_90 (by decide) ?_
      exact (k_X12_sign_120 l D hT aT yT) C X (lv_sub hl [2] rfl) hF
set_option maxHeartbeats 4000000 in
set_option maxRecDepth 100000 in
theorem k_X12_sign_72 (l : Launch) (D : Dx) (hT : Nat) (aT : Nat → Nat) (yT : Nat → ClassId) : S_X12_sign_72 l D hT aT yT (b_X12_sign_72) := by
  intro p e s m args below meth c H locs A ls gT v1 v2 v4 q C X hl hF
  obtain ⟨hx, hb, hr, hml, hown, hts, hlk⟩ := id C
  unfold b_X12_sign_72 at hF
  refine lv_iconst (v := (0 : Int32)) hx hb dX12_sign_72 (by decide) ?_
  exact (k_X12_sign_73 l D hT aT yT) C X (lv_sub hl [0, 1, 2, 3] rfl) hF
set_option maxHeartbeats 4000000 in
set_option maxRecDepth 100000 in
theorem k_X12_sign_63 (l : Launch) (D : Dx) (hT : Nat) (aT : Nat → Nat) (yT : Nat → ClassId) : S_X12_sign_63 l D hT aT yT (b_X12_sign_63) := by
  intro p e s m args below meth c H locs A ls gT v1 v2 v3 v4 q C X hl hF
  obtain ⟨hx, hb, hr, hml, hown, hts, hlk⟩ := id C
  unfold b_X12_sign_63 at hF
  refine lv_iload_n hx hb dX12_sign_63 rfl (lv_at hl 3 rfl) ?_
  refine lv_iload_n hx hb dX12_sign_64 rfl (lv_at hl 2 rfl) ?_
  refine lv_icmp_ne (tgt := 72) hx hb dX12_sign_65 (by decide) (fun c => ?_) (fun c => ?_)
  · replace hF := iF c hF
    exact (k_X12_sign_72 l D hT aT yT) C X (lv_sub hl [0, 1, 2, 4] rfl) hF
  · replace hF := iT c hF
    refine lv_iconst (v := (1 : Int32)) hx hb dX12_sign_68 (by decide) ?_
    refine lv_goto (tgt := 73) hx hb dX12_sign_69 (by decide) ?_
    exact (k_X12_sign_73 l D hT aT yT) C X (lv_sub hl [0, 1, 2, 4] rfl) hF
set_option maxHeartbeats 4000000 in
set_option maxRecDepth 100000 in
theorem k_X12_sign_49 (l : Launch) (D : Dx) (hT : Nat) (aT : Nat → Nat) (yT : Nat → ClassId) : S_X12_sign_49 l D hT aT yT (b_X12_sign_49) := by
  intro p e s m args below meth c H locs A ls gT v1 v2 v3 s0 q C X hl hF
  obtain ⟨hx, hb, hr, hml, hown, hts, hlk⟩ := id C
  unfold b_X12_sign_49 at hF
  refine lv_istore (lv' := [(4, .int s0), (0, .ref hT), (1, .int v1), (2, .int v2), (3, .int v3)]) hx hb dX12_sign_49 hl (by decide) rfl (fun ls hl => ?_)
  refine lv_iload_n hx hb dX12_sign_51 rfl (lv_at hl 3 rfl) ?_
  refine lv_bipush (v := (38 : Int32)) hx hb dX12_sign_52 (by decide) ?_
  refine lv_icmp_eq (tgt := 63) hx hb dX12_sign_54 (by decide) (fun c => ?_) (fun c => ?_)
  · replace hF := iT c hF
    exact (k_X12_sign_63 l D hT aT yT) C X (lv_sub hl [1, 2, 3, 4, 0] rfl) hF
  · replace hF := iF c hF
    refine lv_iload_n hx hb dX12_sign_57 rfl (lv_at hl 3 rfl) ?_
    refine lv_bipush (v := (124 : Int32)) hx hb dX12_sign_58 (by decide) ?_
    refine lv_icmp_ne (tgt := 72) hx hb dX12_sign_60 (by decide) (fun c => ?_) (fun c => ?_)
    · replace hF := iF c hF
      exact (k_X12_sign_72 l D hT aT yT) C X (lv_sub hl [1, 2, 3, 0] rfl) hF
    · replace hF := iT c hF
      exact (k_X12_sign_63 l D hT aT yT) C X (lv_sub hl [1, 2, 3, 4, 0] rfl) hF
set_option maxHeartbeats 4000000 in
set_option maxRecDepth 100000 in
theorem k_X12_sign_48 (l : Launch) (D : Dx) (hT : Nat) (aT : Nat → Nat) (yT : Nat → ClassId) : S_X12_sign_48 l D hT aT yT (b_X12_sign_48) := by
  intro p e s m args below meth c H locs A ls gT v1 v2 v3 q C X hl hF
  obtain ⟨hx, hb, hr, hml, hown, hts, hlk⟩ := id C
  unfold b_X12_sign_48 at hF
  refine lv_iconst (v := (0 : Int32)) hx hb dX12_sign_48 (by decide) ?_
  exact (k_X12_sign_49 l D hT aT yT) C X (lv_sub hl [0, 1, 2, 3] rfl) hF
set_option maxHeartbeats 4000000 in
set_option maxRecDepth 100000 in
theorem k_X12_sign_44 (l : Launch) (D : Dx) (hT : Nat) (aT : Nat → Nat) (yT : Nat → ClassId) : S_X12_sign_44 l D hT aT yT (b_X12_sign_44) := by
  intro p e s m args below meth c H locs A ls gT v1 v2 v3 q C X hl hF
  obtain ⟨hx, hb, hr, hml, hown, hts, hlk⟩ := id C
  unfold b_X12_sign_44 at hF
  refine lv_iconst (v := (1 : Int32)) hx hb dX12_sign_44 (by decide) ?_
  refine lv_goto (tgt := 49) hx hb dX12_sign_45 (by decide) ?_
  exact (k_X12_sign_49 l D hT aT yT) C X (lv_sub hl [0, 1, 2, 3] rfl) hF
set_option maxHeartbeats 4000000 in
set_option maxRecDepth 100000 in
theorem c_X12_sign (l : Launch) (D : Dx) (hT : Nat) (aT : Nat → Nat) (yT : Nat → ClassId) (gT : Gs) (x0 : Int32) (q : Gs) (hF : f_X12_sign gT x0 = some q) (sz : Nat) : Met l yX12_sign (ws_ yX12_sign cX12_sign 6 none) R_X12_sign (PC D (tX12 yT) [.ref hT, .int x0] (wX12 hT aT yT gT) sz) (QV D (va_A (wX12 hT aT yT gT) sz) (wX12 hT aT yT q)) 0 0 (va_A (wX12 hT aT yT gT) sz) := by
  refine Met.ofW (cc := cX12_sign) (maxL := 6) (ret := none) (by decide) rfl ?_
  intro p e s m args below meth c s₁ B hml hv
  obtain ⟨rfl, hsz, hP, hK, hD, hN⟩ := hv
  subst hsz
  have C : Cx p s m _ meth c cX12_sign none 6 RX12 lw_all := Cx_of B hml
  have X := Hx_start hP hK hD hN
  obtain ⟨hx, hb, hr, -, hown, hts, hlk⟩ := id C
  generalize va_A (wX12 hT aT yT gT) s.heap.size = A at X ⊢
  have hl := lv_entry ([.ref hT, .int x0]) (n := 6) (Nat.le_of_ble_eq_true rfl)
  rw [lg_entry_eq]
  generalize (lg_sl ([.ref hT, .int x0]) ++ List.replicate (6 - (lg_sl ([.ref hT, .int x0])).length) Slot.unset).toArray = ls at hl ⊢
  have hl : lv_has ls 6 [(0, .ref hT), (1, .int x0)] := hl
  unfold f_X12_sign at hF
  refine lv_aload_n hx hb dX12_sign_0 rfl (lv_at hl 0 rfl) ?_
  refine lv_iload_n hx hb dX12_sign_1 rfl (lv_at hl 1 rfl) ?_
  obtain ⟨q_1, hc_2, hF⟩ := bnd_some hF
  refine cV_i (As := [.int x0]) (rest := []) C X (c_X12_at l D hT aT yT gT x0 q_1 hc_2 _) (cwV 1 hts (good_V q8_77 q8_79 q0_67 q1_9 q8_80) rfl rfl rfl (by decide +kernel) ⟨Nat.le_of_ble_eq_true rfl, Nat.le_of_ble_eq_true rfl⟩) (va_recv X.1 X.2.1 (ci := 12) (q0 := 0) rfl rfl) X.1 X.2.1 X.2.2.1 (free_all X) hl.1 rfl rfl (Nat.le_of_ble_eq_true rfl) dX12_sign_2 ⟨Nat.le_of_ble_eq_true rfl, Nat.le_of_ble_eq_true rfl⟩ (fun t H1 locs1 ht hB hk hS => ?_)
  have X : Hx D (tX12 yT) A s H1 locs1 (wX12 hT aT yT gT) := Hx_after_all X ht hB hS
  clear hk hS ht hB
  generalize H1 = H at X ⊢
  generalize locs1 = locs at X ⊢
  refine lv_istore_n (lv' := [(2, .int q_1), (0, .ref hT), (1, .int x0)]) hx hb dX12_sign_5 rfl hl (by decide) rfl (fun ls hl => ?_)
  refine lv_aload_n hx hb dX12_sign_6 rfl (lv_at hl 1 rfl) ?_
  refine lv_iload_n hx hb dX12_sign_7 rfl (lv_at hl 2 rfl) ?_
  refine lv_iconst (v := (1 : Int32)) hx hb dX12_sign_8 (by decide) ?_
  refine lv_iadd hx hb dX12_sign_9 ?_
  obtain ⟨q_3, hc_4, hF⟩ := bnd_some hF
  refine cV_i (As := [.int (x0 + (1 : Int32))]) (rest := []) C X (c_X12_at l D hT aT yT gT (x0 + (1 : Int32)) q_3 hc_4 _) (cwV 1 hts (good_V q8_77 q8_79 q0_67 q1_9 q8_80) rfl rfl rfl (by decide +kernel) ⟨Nat.le_of_ble_eq_true rfl, Nat.le_of_ble_eq_true rfl⟩) (va_recv X.1 X.2.1 (ci := 12) (q0 := 0) rfl rfl) X.1 X.2.1 X.2.2.1 (free_all X) hl.1 rfl rfl (Nat.le_of_ble_eq_true rfl) dX12_sign_10 ⟨Nat.le_of_ble_eq_true rfl, Nat.le_of_ble_eq_true rfl⟩ (fun t H1 locs1 ht hB hk hS => ?_)
  have X : Hx D (tX12 yT) A s H1 locs1 (wX12 hT aT yT gT) := Hx_after_all X ht hB hS
  clear hk hS ht hB
  generalize H1 = H at X ⊢
  generalize locs1 = locs at X ⊢
  refine lv_istore_n (lv' := [(3, .int q_3), (2, .int q_1), (0, .ref hT), (1, .int x0)]) hx hb dX12_sign_13 rfl hl (by decide) rfl (fun ls hl => ?_)
  refine lv_iload_n hx hb dX12_sign_14 rfl (lv_at hl 0 rfl) ?_
  refine lv_bipush (v := (61 : Int32)) hx hb dX12_sign_15 (by decide) ?_
  refine lv_icmp_ne (tgt := 48) hx hb dX12_sign_17 (by decide) (fun c => ?_) (fun c => ?_)
  · replace hF := iF c hF
    exact (k_X12_sign_48 l D hT aT yT) C X (lv_sub hl [2, 3, 1, 0] rfl) hF
  · replace hF := iT c hF
    refine lv_iload_n hx hb dX12_sign_20 rfl (lv_at hl 1 rfl) ?_
    refine lv_bipush (v := (60 : Int32)) hx hb dX12_sign_21 (by decide) ?_
    refine lv_icmp_eq (tgt := 44) hx hb dX12_sign_23 (by decide) (fun c => ?_) (fun c => ?_)
    · replace hF := iT c hF
      exact (k_X12_sign_44 l D hT aT yT) C X (lv_sub hl [2, 3, 1, 0] rfl) hF
    · replace hF := iF c hF
      refine lv_iload_n hx hb dX12_sign_26 rfl (lv_at hl 1 rfl) ?_
      refine lv_bipush (v := (62 : Int32)) hx hb dX12_sign_27 (by decide) ?_
      refine lv_icmp_eq (tgt := 44) hx hb dX12_sign_29 (by decide) (fun c => ?_) (fun c => ?_)
      · replace hF := iT c hF
        exact (k_X12_sign_44 l D hT aT yT) C X (lv_sub hl [2, 3, 1, 0] rfl) hF
      · replace hF := iF c hF
        refine lv_iload_n hx hb dX12_sign_32 rfl (lv_at hl 1 rfl) ?_
        refine lv_bipush (v := (61 : Int32)) hx hb dX12_sign_33 (by decide) ?_
        refine lv_icmp_eq (tgt := 44) hx hb dX12_sign_35 (by decide) (fun c => ?_) (fun c => ?_)
        · replace hF := iT c hF
          exact (k_X12_sign_44 l D hT aT yT) C X (lv_sub hl [2, 3, 1, 0] rfl) hF
        · replace hF := iF c hF
          refine lv_iload_n hx hb dX12_sign_38 rfl (lv_at hl 1 rfl) ?_
          refine lv_bipush (v := (33 : Int32)) hx hb dX12_sign_39 (by decide) ?_
          refine lv_icmp_ne (tgt := 48) hx hb dX12_sign_41 (by decide) (fun c => ?_) (fun c => ?_)
          · replace hF := iF c hF
            exact (k_X12_sign_48 l D hT aT yT) C X (lv_sub hl [2, 3, 1, 0] rfl) hF
          · replace hF := iT c hF
            exact (k_X12_sign_44 l D hT aT yT) C X (lv_sub hl [2, 3, 1, 0] rfl) hF

/-! ### X12_scan -/
theorem dX12_scan_0 : decode cX12_scan 0 = .ok (.aload_n 0, 1) := by decide +kernel
theorem dX12_scan_1 : decode cX12_scan 1 = .ok (.aload_n 0, 1) := by decide +kernel
theorem dX12_scan_2 : decode cX12_scan 2 = .ok (.getfield 13, 3) := by decide +kernel
theorem dX12_scan_5 : decode cX12_scan 5 = .ok (.putfield 20, 3) := by decide +kernel
theorem dX12_scan_8 : decode cX12_scan 8 = .ok (.iconst 0, 1) := by decide +kernel
theorem dX12_scan_9 : decode cX12_scan 9 = .ok (.istore_n 1, 1) := by decide +kernel
theorem dX12_scan_10 : decode cX12_scan 10 = .ok (.iload_n 1, 1) := by decide +kernel
theorem dX12_scan_11 : decode cX12_scan 11 = .ok (.aload_n 0, 1) := by decide +kernel
theorem dX12_scan_12 : decode cX12_scan 12 = .ok (.getfield 20, 3) := by decide +kernel
theorem dX12_scan_15 : decode cX12_scan 15 = .ok (.if_icmp .ge 21, 3) := by decide +kernel
theorem dX12_scan_18 : decode cX12_scan 18 = .ok (.aload_n 0, 1) := by decide +kernel
theorem dX12_scan_19 : decode cX12_scan 19 = .ok (.getfield 17, 3) := by decide +kernel
theorem dX12_scan_22 : decode cX12_scan 22 = .ok (.iload_n 1, 1) := by decide +kernel
theorem dX12_scan_23 : decode cX12_scan 23 = .ok (.aload_n 0, 1) := by decide +kernel
theorem dX12_scan_24 : decode cX12_scan 24 = .ok (.getfield 9, 3) := by decide +kernel
theorem dX12_scan_27 : decode cX12_scan 27 = .ok (.iload_n 1, 1) := by decide +kernel
theorem dX12_scan_28 : decode cX12_scan 28 = .ok (.baload, 1) := by decide +kernel
theorem dX12_scan_29 : decode cX12_scan 29 = .ok (.bastore, 1) := by decide +kernel
theorem dX12_scan_30 : decode cX12_scan 30 = .ok (.iinc 1 1, 3) := by decide +kernel
theorem dX12_scan_33 : decode cX12_scan 33 = .ok (.goto (-23), 3) := by decide +kernel
theorem dX12_scan_36 : decode cX12_scan 36 = .ok (.aload_n 0, 1) := by decide +kernel
theorem dX12_scan_37 : decode cX12_scan 37 = .ok (.iconst 0, 1) := by decide +kernel
theorem dX12_scan_38 : decode cX12_scan 38 = .ok (.putfield 13, 3) := by decide +kernel
theorem dX12_scan_41 : decode cX12_scan 41 = .ok (.aload_n 0, 1) := by decide +kernel
theorem dX12_scan_42 : decode cX12_scan 42 = .ok (.iconst 0, 1) := by decide +kernel
theorem dX12_scan_43 : decode cX12_scan 43 = .ok (.putfield 79, 3) := by decide +kernel
theorem dX12_scan_46 : decode cX12_scan 46 = .ok (.iconst 0, 1) := by decide +kernel
theorem dX12_scan_47 : decode cX12_scan 47 = .ok (.istore_n 1, 1) := by decide +kernel
theorem dX12_scan_48 : decode cX12_scan 48 = .ok (.iconst 1, 1) := by decide +kernel
theorem dX12_scan_49 : decode cX12_scan 49 = .ok (.istore_n 2, 1) := by decide +kernel
theorem dX12_scan_50 : decode cX12_scan 50 = .ok (.iload_n 2, 1) := by decide +kernel
theorem dX12_scan_51 : decode cX12_scan 51 = .ok (.ifCond .eq 151, 3) := by decide +kernel
theorem dX12_scan_54 : decode cX12_scan 54 = .ok (.iload_n 1, 1) := by decide +kernel
theorem dX12_scan_55 : decode cX12_scan 55 = .ok (.aload_n 0, 1) := by decide +kernel
theorem dX12_scan_56 : decode cX12_scan 56 = .ok (.getfield 20, 3) := by decide +kernel
theorem dX12_scan_59 : decode cX12_scan 59 = .ok (.if_icmp .ge 39, 3) := by decide +kernel
theorem dX12_scan_62 : decode cX12_scan 62 = .ok (.aload_n 0, 1) := by decide +kernel
theorem dX12_scan_63 : decode cX12_scan 63 = .ok (.iload_n 1, 1) := by decide +kernel
theorem dX12_scan_64 : decode cX12_scan 64 = .ok (.invokevirtual 505, 3) := by decide +kernel
theorem dX12_scan_67 : decode cX12_scan 67 = .ok (.bipush 32, 2) := by decide +kernel
theorem dX12_scan_69 : decode cX12_scan 69 = .ok (.if_icmp .eq 23, 3) := by decide +kernel
theorem dX12_scan_72 : decode cX12_scan 72 = .ok (.aload_n 0, 1) := by decide +kernel
theorem dX12_scan_73 : decode cX12_scan 73 = .ok (.iload_n 1, 1) := by decide +kernel
theorem dX12_scan_74 : decode cX12_scan 74 = .ok (.invokevirtual 505, 3) := by decide +kernel
theorem dX12_scan_77 : decode cX12_scan 77 = .ok (.bipush 10, 2) := by decide +kernel
theorem dX12_scan_79 : decode cX12_scan 79 = .ok (.if_icmp .eq 13, 3) := by decide +kernel
theorem dX12_scan_82 : decode cX12_scan 82 = .ok (.aload_n 0, 1) := by decide +kernel
theorem dX12_scan_83 : decode cX12_scan 83 = .ok (.iload_n 1, 1) := by decide +kernel
theorem dX12_scan_84 : decode cX12_scan 84 = .ok (.invokevirtual 505, 3) := by decide +kernel
theorem dX12_scan_87 : decode cX12_scan 87 = .ok (.bipush 9, 2) := by decide +kernel
theorem dX12_scan_89 : decode cX12_scan 89 = .ok (.if_icmp .ne 9, 3) := by decide +kernel
theorem dX12_scan_92 : decode cX12_scan 92 = .ok (.iinc 1 1, 3) := by decide +kernel
theorem dX12_scan_95 : decode cX12_scan 95 = .ok (.goto (-41), 3) := by decide +kernel
theorem dX12_scan_98 : decode cX12_scan 98 = .ok (.aload_n 0, 1) := by decide +kernel
theorem dX12_scan_99 : decode cX12_scan 99 = .ok (.iload_n 1, 1) := by decide +kernel
theorem dX12_scan_100 : decode cX12_scan 100 = .ok (.invokevirtual 505, 3) := by decide +kernel
theorem dX12_scan_103 : decode cX12_scan 103 = .ok (.istore_n 3, 1) := by decide +kernel
theorem dX12_scan_104 : decode cX12_scan 104 = .ok (.iload_n 1, 1) := by decide +kernel
theorem dX12_scan_105 : decode cX12_scan 105 = .ok (.aload_n 0, 1) := by decide +kernel
theorem dX12_scan_106 : decode cX12_scan 106 = .ok (.getfield 20, 3) := by decide +kernel
theorem dX12_scan_109 : decode cX12_scan 109 = .ok (.if_icmp .ne 13, 3) := by decide +kernel
theorem dX12_scan_112 : decode cX12_scan 112 = .ok (.aload_n 0, 1) := by decide +kernel
theorem dX12_scan_113 : decode cX12_scan 113 = .ok (.iconst 0, 1) := by decide +kernel
theorem dX12_scan_114 : decode cX12_scan 114 = .ok (.iload_n 1, 1) := by decide +kernel
theorem dX12_scan_115 : decode cX12_scan 115 = .ok (.iload_n 1, 1) := by decide +kernel
theorem dX12_scan_116 : decode cX12_scan 116 = .ok (.invokevirtual 509, 3) := by decide +kernel
theorem dX12_scan_119 : decode cX12_scan 119 = .ok (.goto 38, 3) := by decide +kernel
theorem dX12_scan_122 : decode cX12_scan 122 = .ok (.iload_n 3, 1) := by decide +kernel
theorem dX12_scan_123 : decode cX12_scan 123 = .ok (.invokestatic 513, 3) := by decide +kernel
theorem dX12_scan_126 : decode cX12_scan 126 = .ok (.ifCond .eq 11, 3) := by decide +kernel
theorem dX12_scan_129 : decode cX12_scan 129 = .ok (.aload_n 0, 1) := by decide +kernel
theorem dX12_scan_130 : decode cX12_scan 130 = .ok (.iload_n 1, 1) := by decide +kernel
theorem dX12_scan_131 : decode cX12_scan 131 = .ok (.invokevirtual 516, 3) := by decide +kernel
theorem dX12_scan_134 : decode cX12_scan 134 = .ok (.goto 23, 3) := by decide +kernel
theorem dX12_scan_137 : decode cX12_scan 137 = .ok (.iload_n 3, 1) := by decide +kernel
theorem dX12_scan_138 : decode cX12_scan 138 = .ok (.invokestatic 520, 3) := by decide +kernel
theorem dX12_scan_141 : decode cX12_scan 141 = .ok (.ifCond .eq 11, 3) := by decide +kernel
theorem dX12_scan_144 : decode cX12_scan 144 = .ok (.aload_n 0, 1) := by decide +kernel
theorem dX12_scan_145 : decode cX12_scan 145 = .ok (.iload_n 1, 1) := by decide +kernel
theorem dX12_scan_146 : decode cX12_scan 146 = .ok (.invokevirtual 523, 3) := by decide +kernel
theorem dX12_scan_149 : decode cX12_scan 149 = .ok (.goto 8, 3) := by decide +kernel
theorem dX12_scan_152 : decode cX12_scan 152 = .ok (.aload_n 0, 1) := by decide +kernel
theorem dX12_scan_153 : decode cX12_scan 153 = .ok (.iload_n 1, 1) := by decide +kernel
theorem dX12_scan_154 : decode cX12_scan 154 = .ok (.invokevirtual 526, 3) := by decide +kernel
theorem dX12_scan_157 : decode cX12_scan 157 = .ok (.aload_n 0, 1) := by decide +kernel
theorem dX12_scan_158 : decode cX12_scan 158 = .ok (.getfield 82, 3) := by decide +kernel
theorem dX12_scan_161 : decode cX12_scan 161 = .ok (.aload_n 0, 1) := by decide +kernel
theorem dX12_scan_162 : decode cX12_scan 162 = .ok (.getfield 79, 3) := by decide +kernel
theorem dX12_scan_165 : decode cX12_scan 165 = .ok (.iconst 1, 1) := by decide +kernel
theorem dX12_scan_166 : decode cX12_scan 166 = .ok (.isub, 1) := by decide +kernel
theorem dX12_scan_167 : decode cX12_scan 167 = .ok (.iaload, 1) := by decide +kernel
theorem dX12_scan_168 : decode cX12_scan 168 = .ok (.istore 4, 2) := by decide +kernel
theorem dX12_scan_170 : decode cX12_scan 170 = .ok (.iload 4, 2) := by decide +kernel
theorem dX12_scan_172 : decode cX12_scan 172 = .ok (.ifCond .eq 13, 3) := by decide +kernel
theorem dX12_scan_175 : decode cX12_scan 175 = .ok (.iload 4, 2) := by decide +kernel
theorem dX12_scan_177 : decode cX12_scan 177 = .ok (.iconst 1, 1) := by decide +kernel
theorem dX12_scan_178 : decode cX12_scan 178 = .ok (.if_icmp .eq 7, 3) := by decide +kernel
theorem dX12_scan_181 : decode cX12_scan 181 = .ok (.iconst 1, 1) := by decide +kernel
theorem dX12_scan_182 : decode cX12_scan 182 = .ok (.goto 4, 3) := by decide +kernel
theorem dX12_scan_185 : decode cX12_scan 185 = .ok (.iconst 0, 1) := by decide +kernel
theorem dX12_scan_186 : decode cX12_scan 186 = .ok (.istore_n 2, 1) := by decide +kernel
theorem dX12_scan_187 : decode cX12_scan 187 = .ok (.aload_n 0, 1) := by decide +kernel
theorem dX12_scan_188 : decode cX12_scan 188 = .ok (.getfield 89, 3) := by decide +kernel
theorem dX12_scan_191 : decode cX12_scan 191 = .ok (.aload_n 0, 1) := by decide +kernel
theorem dX12_scan_192 : decode cX12_scan 192 = .ok (.getfield 79, 3) := by decide +kernel
theorem dX12_scan_195 : decode cX12_scan 195 = .ok (.iconst 1, 1) := by decide +kernel
theorem dX12_scan_196 : decode cX12_scan 196 = .ok (.isub, 1) := by decide +kernel
theorem dX12_scan_197 : decode cX12_scan 197 = .ok (.iaload, 1) := by decide +kernel
theorem dX12_scan_198 : decode cX12_scan 198 = .ok (.istore_n 1, 1) := by decide +kernel
theorem dX12_scan_199 : decode cX12_scan 199 = .ok (.goto (-149), 3) := by decide +kernel
theorem dX12_scan_202 : decode cX12_scan 202 = .ok (.return_, 1) := by decide +kernel
abbrev R_X12_scan : Room := ({ frames := 6, cells := 0, slots := 0, locals := 168 } : Room)
def b_X12_scan_186 (n : Nat) (rec : (Gs → Int32 → Option (Gs)) × (Gs → Int32 → Int32 → Option (Gs)) × (Gs → Int32 → Option (Gs))) (gT : Gs) (s0 : Int32) : Option (Gs) :=
  grd (inB ((gI gT 8) - (1 : Int32)) 3001) (rec.2.1 gT (gIA gT 11 ((gI gT 8) - (1 : Int32)).toNatClampNeg) s0)
def b_X12_scan_185 (n : Nat) (rec : (Gs → Int32 → Option (Gs)) × (Gs → Int32 → Int32 → Option (Gs)) × (Gs → Int32 → Option (Gs))) (gT : Gs) : Option (Gs) :=
  b_X12_scan_186 n rec gT (0 : Int32)
def b_X12_scan_157 (n : Nat) (rec : (Gs → Int32 → Option (Gs)) × (Gs → Int32 → Int32 → Option (Gs)) × (Gs → Int32 → Option (Gs))) (gT : Gs) : Option (Gs) :=
  grd (inB ((gI gT 8) - (1 : Int32)) 3001) (if (gIA gT 9 ((gI gT 8) - (1 : Int32)).toNatClampNeg) = 0 then (b_X12_scan_185 n rec gT) else (if (gIA gT 9 ((gI gT 8) - (1 : Int32)).toNatClampNeg) = (1 : Int32) then (b_X12_scan_185 n rec gT) else (b_X12_scan_186 n rec gT (1 : Int32))))
def b_X12_scan_98 (n : Nat) (rec : (Gs → Int32 → Option (Gs)) × (Gs → Int32 → Int32 → Option (Gs)) × (Gs → Int32 → Option (Gs))) (gT : Gs) (v1 : Int32) : Option (Gs) :=
  bnd (f_X12_at gT v1) (fun q_1 => if v1 = (gI gT 6) then (bnd (f_X12_token gT (0 : Int32) v1 v1) (fun q_15 => b_X12_scan_157 n rec q_15)) else (bnd (f_X12_isLetter q_1) (fun q_3 => if q_3 = 0 then (bnd (f_X12_isDigit q_1) (fun q_5 => if q_5 = 0 then (bnd (f_X12_sign gT v1) (fun q_7 => b_X12_scan_157 n rec q_7)) else (bnd (f_X12_number n gT v1) (fun q_11 => b_X12_scan_157 n rec q_11)))) else (bnd (f_X12_word n gT v1) (fun q_13 => b_X12_scan_157 n rec q_13)))))
def b_X12_scan_92 (n : Nat) (rec : (Gs → Int32 → Option (Gs)) × (Gs → Int32 → Int32 → Option (Gs)) × (Gs → Int32 → Option (Gs))) (gT : Gs) (v1 : Int32) : Option (Gs) :=
  rec.2.2 gT (v1 + (1 : Int32))
def h_X12_scan_54 (n : Nat) (rec : (Gs → Int32 → Option (Gs)) × (Gs → Int32 → Int32 → Option (Gs)) × (Gs → Int32 → Option (Gs))) (gT : Gs) (v1 : Int32) : Option (Gs) :=
  if (gI gT 6) ≤ v1 then (b_X12_scan_98 n rec gT v1) else (bnd (f_X12_at gT v1) (fun q_17 => if q_17 = (32 : Int32) then (b_X12_scan_92 n rec gT v1) else (bnd (f_X12_at gT v1) (fun q_19 => if q_19 = (10 : Int32) then (b_X12_scan_92 n rec gT v1) else (bnd (f_X12_at gT v1) (fun q_21 => if q_21 = (9 : Int32) then (b_X12_scan_92 n rec gT v1) else (b_X12_scan_98 n rec gT v1)))))))
def h_X12_scan_50 (n : Nat) (rec : (Gs → Int32 → Option (Gs)) × (Gs → Int32 → Int32 → Option (Gs)) × (Gs → Int32 → Option (Gs))) (gT : Gs) (v1 : Int32) (v2 : Int32) : Option (Gs) :=
  if v2 = 0 then (some gT) else (rec.2.2 gT v1)
def h_X12_scan_10 (n : Nat) (rec : (Gs → Int32 → Option (Gs)) × (Gs → Int32 → Int32 → Option (Gs)) × (Gs → Int32 → Option (Gs))) (gT : Gs) (v1 : Int32) : Option (Gs) :=
  if (gI gT 6) ≤ v1 then (rec.2.1 (sI (sI gT 4 (0 : Int32)) 8 (0 : Int32)) (0 : Int32) (1 : Int32)) else (grd (inB v1 3000) (grd (inB v1 3001) (rec.1 (sIA gT 5 (upd (gIA gT 5) v1.toNatClampNeg (vp_nar .byte (gIA gT 3 v1.toNatClampNeg)))) (v1 + (1 : Int32)))))
def L_X12_scan (n : Nat) : Nat → ((Gs → Int32 → Option (Gs)) × (Gs → Int32 → Int32 → Option (Gs)) × (Gs → Int32 → Option (Gs)))
  | 0 => ((fun _ _ => none), (fun _ _ _ => none), (fun _ _ => none))
  | k + 1 => (h_X12_scan_10 n (L_X12_scan n k), h_X12_scan_50 n (L_X12_scan n k), h_X12_scan_54 n (L_X12_scan n k))
def f_X12_scan (n : Nat) (gT : Gs) : Option (Gs) :=
  (L_X12_scan n n).1 (sI gT 6 (gI gT 4)) (0 : Int32)
def S_X12_scan_186 (l : Launch) (D : Dx) (hT : Nat) (aT : Nat → Nat) (yT : Nat → ClassId) (fn : Gs → Int32 → Option (Gs)) : Prop :=
  ∀ {p : Program} {e : Env} {s : State} {m : MethodId} {args : Array Value} {below : List Frame} {meth : Method} {c : Code} {H : Heap} {locs : List Loc} {A : Nat → Prop} {ls : Array Slot} {gT : Gs} {s0 : Int32} {q : Gs}, Cx p s m args meth c cX12_scan none 5 RX12 lw_all → Hx D (tX12 yT) A s H locs (wX12 hT aT yT gT) → lv_has ls 5 [(0, .ref hT)] → fn gT s0 = some q → W p l e R_X12_scan s m args below meth c H locs 0 0 (MQ below (QV D A (wX12 hT aT yT q)) args s 0 0 A) (F0 m 186 ls [.int s0])
def S_X12_scan_185 (l : Launch) (D : Dx) (hT : Nat) (aT : Nat → Nat) (yT : Nat → ClassId) (fn : Gs → Option (Gs)) : Prop :=
  ∀ {p : Program} {e : Env} {s : State} {m : MethodId} {args : Array Value} {below : List Frame} {meth : Method} {c : Code} {H : Heap} {locs : List Loc} {A : Nat → Prop} {ls : Array Slot} {gT : Gs} {q : Gs}, Cx p s m args meth c cX12_scan none 5 RX12 lw_all → Hx D (tX12 yT) A s H locs (wX12 hT aT yT gT) → lv_has ls 5 [(0, .ref hT)] → fn gT = some q → W p l e R_X12_scan s m args below meth c H locs 0 0 (MQ below (QV D A (wX12 hT aT yT q)) args s 0 0 A) (F0 m 185 ls [])
def S_X12_scan_157 (l : Launch) (D : Dx) (hT : Nat) (aT : Nat → Nat) (yT : Nat → ClassId) (fn : Gs → Option (Gs)) : Prop :=
  ∀ {p : Program} {e : Env} {s : State} {m : MethodId} {args : Array Value} {below : List Frame} {meth : Method} {c : Code} {H : Heap} {locs : List Loc} {A : Nat → Prop} {ls : Array Slot} {gT : Gs} {q : Gs}, Cx p s m args meth c cX12_scan none 5 RX12 lw_all → Hx D (tX12 yT) A s H locs (wX12 hT aT yT gT) → lv_has ls 5 [(0, .ref hT)] → fn gT = some q → W p l e R_X12_scan s m args below meth c H locs 0 0 (MQ below (QV D A (wX12 hT aT yT q)) args s 0 0 A) (F0 m 157 ls [])
def S_X12_scan_98 (l : Launch) (D : Dx) (hT : Nat) (aT : Nat → Nat) (yT : Nat → ClassId) (fn : Gs → Int32 → Option (Gs)) : Prop :=
  ∀ {p : Program} {e : Env} {s : State} {m : MethodId} {args : Array Value} {below : List Frame} {meth : Method} {c : Code} {H : Heap} {locs : List Loc} {A : Nat → Prop} {ls : Array Slot} {gT : Gs} {v1 : Int32} {q : Gs}, Cx p s m args meth c cX12_scan none 5 RX12 lw_all → Hx D (tX12 yT) A s H locs (wX12 hT aT yT gT) → lv_has ls 5 [(0, .ref hT), (1, .int v1)] → fn gT v1 = some q → W p l e R_X12_scan s m args below meth c H locs 0 0 (MQ below (QV D A (wX12 hT aT yT q)) args s 0 0 A) (F0 m 98 ls [])
def S_X12_scan_92 (l : Launch) (D : Dx) (hT : Nat) (aT : Nat → Nat) (yT : Nat → ClassId) (fn : Gs → Int32 → Option (Gs)) : Prop :=
  ∀ {p : Program} {e : Env} {s : State} {m : MethodId} {args : Array Value} {below : List Frame} {meth : Method} {c : Code} {H : Heap} {locs : List Loc} {A : Nat → Prop} {ls : Array Slot} {gT : Gs} {v1 : Int32} {q : Gs}, Cx p s m args meth c cX12_scan none 5 RX12 lw_all → Hx D (tX12 yT) A s H locs (wX12 hT aT yT gT) → lv_has ls 5 [(0, .ref hT), (1, .int v1)] → fn gT v1 = some q → W p l e R_X12_scan s m args below meth c H locs 0 0 (MQ below (QV D A (wX12 hT aT yT q)) args s 0 0 A) (F0 m 92 ls [])
def S_X12_scan_54 (l : Launch) (D : Dx) (hT : Nat) (aT : Nat → Nat) (yT : Nat → ClassId) (fn : Gs → Int32 → Option (Gs)) : Prop :=
  ∀ {p : Program} {e : Env} {s : State} {m : MethodId} {args : Array Value} {below : List Frame} {meth : Method} {c : Code} {H : Heap} {locs : List Loc} {A : Nat → Prop} {ls : Array Slot} {gT : Gs} {v1 : Int32} {q : Gs}, Cx p s m args meth c cX12_scan none 5 RX12 lw_all → Hx D (tX12 yT) A s H locs (wX12 hT aT yT gT) → lv_has ls 5 [(0, .ref hT), (1, .int v1)] → fn gT v1 = some q → W p l e R_X12_scan s m args below meth c H locs 0 0 (MQ below (QV D A (wX12 hT aT yT q)) args s 0 0 A) (F0 m 54 ls [])
def S_X12_scan_50 (l : Launch) (D : Dx) (hT : Nat) (aT : Nat → Nat) (yT : Nat → ClassId) (fn : Gs → Int32 → Int32 → Option (Gs)) : Prop :=
  ∀ {p : Program} {e : Env} {s : State} {m : MethodId} {args : Array Value} {below : List Frame} {meth : Method} {c : Code} {H : Heap} {locs : List Loc} {A : Nat → Prop} {ls : Array Slot} {gT : Gs} {v1 : Int32} {v2 : Int32} {q : Gs}, Cx p s m args meth c cX12_scan none 5 RX12 lw_all → Hx D (tX12 yT) A s H locs (wX12 hT aT yT gT) → lv_has ls 5 [(0, .ref hT), (1, .int v1), (2, .int v2)] → fn gT v1 v2 = some q → W p l e R_X12_scan s m args below meth c H locs 0 0 (MQ below (QV D A (wX12 hT aT yT q)) args s 0 0 A) (F0 m 50 ls [])
def S_X12_scan_10 (l : Launch) (D : Dx) (hT : Nat) (aT : Nat → Nat) (yT : Nat → ClassId) (fn : Gs → Int32 → Option (Gs)) : Prop :=
  ∀ {p : Program} {e : Env} {s : State} {m : MethodId} {args : Array Value} {below : List Frame} {meth : Method} {c : Code} {H : Heap} {locs : List Loc} {A : Nat → Prop} {ls : Array Slot} {gT : Gs} {v1 : Int32} {q : Gs}, Cx p s m args meth c cX12_scan none 5 RX12 lw_all → Hx D (tX12 yT) A s H locs (wX12 hT aT yT gT) → lv_has ls 5 [(0, .ref hT), (1, .int v1)] → fn gT v1 = some q → W p l e R_X12_scan s m args below meth c H locs 0 0 (MQ below (QV D A (wX12 hT aT yT q)) args s 0 0 A) (F0 m 10 ls [])
def SH_X12_scan (l : Launch) (D : Dx) (hT : Nat) (aT : Nat → Nat) (yT : Nat → ClassId) (rec : (Gs → Int32 → Option (Gs)) × (Gs → Int32 → Int32 → Option (Gs)) × (Gs → Int32 → Option (Gs))) : Prop := S_X12_scan_10 l D hT aT yT rec.1 ∧ S_X12_scan_50 l D hT aT yT rec.2.1 ∧ S_X12_scan_54 l D hT aT yT rec.2.2
set_option maxHeartbeats 4000000 in
set_option maxRecDepth 100000 in
theorem k_X12_scan_186 (l : Launch) (D : Dx) (hT : Nat) (aT : Nat → Nat) (yT : Nat → ClassId) (n : Nat) (rec : (Gs → Int32 → Option (Gs)) × (Gs → Int32 → Int32 → Option (Gs)) × (Gs → Int32 → Option (Gs))) (IH : SH_X12_scan l D hT aT yT rec) : S_X12_scan_186 l D hT aT yT (b_X12_scan_186 n rec) := by
  intro p e s m args below meth c H locs A ls gT s0 q C X hl hF
  obtain ⟨hx, hb, hr, hml, hown, hts, hlk⟩ := id C
  unfold b_X12_scan_186 at hF
  refine lv_istore_n (lv' := [(2, .int s0), (0, .ref hT)]) hx hb dX12_scan_186 rfl hl (by decide) rfl (fun ls hl => ?_)
  refine lv_aload_n hx hb dX12_scan_187 rfl (lv_at hl 1 rfl) ?_
  refine va_get (D := D.1) (ci := 12) (v := .ref (aT 11)) (C := RX12) (T := TX12) (N := 114) hx hb hts wi_X12 hown X.1 X.2.1 0 rfl rfl 11 (by decide) (hts _ q6_205) (fun _ h9 => h9) (fl_get (by decide)) dX12_scan_188 ?_
  refine lv_aload_n hx hb dX12_scan_191 rfl (lv_at hl 1 rfl) ?_
  refine va_get (D := D.1) (ci := 12) (v := .int (gI gT 8)) (C := RX12) (T := TX12) (N := 114) hx hb hts wi_X12 hown X.1 X.2.1 0 rfl rfl 8 (by decide) (hts _ q6_202) (fun _ h9 => h9) (fl_get (by decide)) dX12_scan_192 ?_
  refine lv_iconst (v := (1 : Int32)) hx hb dX12_scan_195 (by decide) ?_
  refine lv_isub hx hb dX12_scan_196 ?_
  obtain ⟨h_10, hF⟩ := grd_some hF
  refine va_iald (D := D.1) (f := gIA gT 11) hx hb X.1 X.2.1 6 5 rfl rfl (inB_ok h_10) dX12_scan_197 ?_
  refine lv_istore_n (lv' := [(1, .int (gIA gT 11 ((gI gT 8) - (1 : Int32)).toNatClampNeg)), (2, .int s0), (0, .ref hT)]) hx hb dX12_scan_198 rfl hl (by decide) rfl (fun ls hl => ?_)
  refine lv_goto (tgt := 50) hx hb dX12_scan_199 (by decide) ?_
  exact IH.2.1 C X (lv_sub hl [2, 0, 1] rfl) hF
set_option maxHeartbeats 4000000 in
set_option maxRecDepth 100000 in
theorem k_X12_scan_185 (l : Launch) (D : Dx) (hT : Nat) (aT : Nat → Nat) (yT : Nat → ClassId) (n : Nat) (rec : (Gs → Int32 → Option (Gs)) × (Gs → Int32 → Int32 → Option (Gs)) × (Gs → Int32 → Option (Gs))) (IH : SH_X12_scan l D hT aT yT rec) : S_X12_scan_185 l D hT aT yT (b_X12_scan_185 n rec) := by
  intro p e s m args below meth c H locs A ls gT q C X hl hF
  obtain ⟨hx, hb, hr, hml, hown, hts, hlk⟩ := id C
  unfold b_X12_scan_185 at hF
  refine lv_iconst (v := (0 : Int32)) hx hb dX12_scan_185 (by decide) ?_
  exact (k_X12_scan_186 l D hT aT yT n rec IH) C X (lv_sub hl [0] rfl) hF
set_option maxHeartbeats 4000000 in
set_option maxRecDepth 100000 in
theorem k_X12_scan_157 (l : Launch) (D : Dx) (hT : Nat) (aT : Nat → Nat) (yT : Nat → ClassId) (n : Nat) (rec : (Gs → Int32 → Option (Gs)) × (Gs → Int32 → Int32 → Option (Gs)) × (Gs → Int32 → Option (Gs))) (IH : SH_X12_scan l D hT aT yT rec) : S_X12_scan_157 l D hT aT yT (b_X12_scan_157 n rec) := by
  intro p e s m args below meth c H locs A ls gT q C X hl hF
  obtain ⟨hx, hb, hr, hml, hown, hts, hlk⟩ := id C
  unfold b_X12_scan_157 at hF
  refine lv_aload_n hx hb dX12_scan_157 rfl (lv_at hl 0 rfl) ?_
  refine va_get (D := D.1) (ci := 12) (v := .ref (aT 9)) (C := RX12) (T := TX12) (N := 114) hx hb hts wi_X12 hown X.1 X.2.1 0 rfl rfl 9 (by decide) (hts _ q6_203) (fun _ h9 => h9) (fl_get (by decide)) dX12_scan_158 ?_
  refine lv_aload_n hx hb dX12_scan_161 rfl (lv_at hl 0 rfl) ?_
  refine va_get (D := D.1) (ci := 12) (v := .int (gI gT 8)) (C := RX12) (T := TX12) (N := 114) hx hb hts wi_X12 hown X.1 X.2.1 0 rfl rfl 8 (by decide) (hts _ q6_202) (fun _ h9 => h9) (fl_get (by decide)) dX12_scan_162 ?_
  refine lv_iconst (v := (1 : Int32)) hx hb dX12_scan_165 (by decide) ?_
  refine lv_isub hx hb dX12_scan_166 ?_
  obtain ⟨h_9, hF⟩ := grd_some hF
  refine va_iald (D := D.1) (f := gIA gT 9) hx hb X.1 X.2.1 4 3 rfl rfl (inB_ok h_9) dX12_scan_167 ?_
  refine lv_istore (lv' := [(4, .int (gIA gT 9 ((gI gT 8) - (1 : Int32)).toNatClampNeg)), (0, .ref hT)]) hx hb dX12_scan_168 hl (by decide) rfl (fun ls hl => ?_)
  refine lv_iload hx hb dX12_scan_170 (lv_at hl 0 rfl) ?_
  refine lv_if_eq (tgt := 185) hx hb dX12_scan_172 (by decide) (fun c => ?_) (fun c => ?_)
  · replace hF := iT c hF
    exact (k_X12_scan_185 l D hT aT yT n rec IH) C X (lv_sub hl [1] rfl) hF
  · replace hF := iF c hF
    refine lv_iload hx hb dX12_scan_175 (lv_at hl 0 rfl) ?_
    refine lv_iconst (v := (1 : Int32)) hx hb dX12_scan_177 (by decide) ?_
    refine lv_icmp_eq (tgt := 185) hx hb dX12_scan_178 (by decide) (fun c => ?_) (fun c => ?_)
    · replace hF := iT c hF
      exact (k_X12_scan_185 l D hT aT yT n rec IH) C X (lv_sub hl [1] rfl) hF
    · replace hF := iF c hF
      refine lv_iconst (v := (1 : Int32)) hx hb dX12_scan_181 (by decide) ?_
      refine lv_goto (tgt := 186) hx hb dX12_scan_182 (by decide) ?_
      exact (k_X12_scan_186 l D hT aT yT n rec IH) C X (lv_sub hl [1] rfl) hF
set_option maxHeartbeats 4000000 in
set_option maxRecDepth 100000 in
theorem k_X12_scan_98 (l : Launch) (D : Dx) (hT : Nat) (aT : Nat → Nat) (yT : Nat → ClassId) (n : Nat) (rec : (Gs → Int32 → Option (Gs)) × (Gs → Int32 → Int32 → Option (Gs)) × (Gs → Int32 → Option (Gs))) (IH : SH_X12_scan l D hT aT yT rec) : S_X12_scan_98 l D hT aT yT (b_X12_scan_98 n rec) := by
  intro p e s m args below meth c H locs A ls gT v1 q C X hl hF
  obtain ⟨hx, hb, hr, hml, hown, hts, hlk⟩ := id C
  unfold b_X12_scan_98 at hF
  refine lv_aload_n hx hb dX12_scan_98 rfl (lv_at hl 0 rfl) ?_
  refine lv_iload_n hx hb dX12_scan_99 rfl (lv_at hl 1 rfl) ?_
  obtain ⟨q_1, hc_2, hF⟩ := bnd_some hF
  refine cV_i (As := [.int v1]) (rest := []) C X (c_X12_at l D hT aT yT gT v1 q_1 hc_2 _) (cwV 1 hts (good_V q8_77 q8_79 q0_67 q1_9 q8_80) rfl rfl rfl (by decide +kernel) ⟨Nat.le_of_ble_eq_true rfl, Nat.le_of_ble_eq_true rfl⟩) (va_recv X.1 X.2.1 (ci := 12) (q0 := 0) rfl rfl) X.1 X.2.1 X.2.2.1 (free_all X) hl.1 rfl rfl (Nat.le_of_ble_eq_true rfl) dX12_scan_100 ⟨Nat.le_of_ble_eq_true rfl, Nat.le_of_ble_eq_true rfl⟩ (fun t H1 locs1 ht hB hk hS => ?_)
  have X : Hx D (tX12 yT) A s H1 locs1 (wX12 hT aT yT gT) := Hx_after_all X ht hB hS
  clear hk hS ht hB
  generalize H1 = H at X ⊢
  generalize locs1 = locs at X ⊢
  refine lv_istore_n (lv' := [(3, .int q_1), (0, .ref hT), (1, .int v1)]) hx hb dX12_scan_103 rfl hl (by decide) rfl (fun ls hl => ?_)
  refine lv_iload_n hx hb dX12_scan_104 rfl (lv_at hl 2 rfl) ?_
  refine lv_aload_n hx hb dX12_scan_105 rfl (lv_at hl 1 rfl) ?_
  refine va_get (D := D.1) (ci := 12) (v := .int (gI gT 6)) (C := RX12) (T := TX12) (N := 114) hx hb hts wi_X12 hown X.1 X.2.1 0 rfl rfl 6 (by decide) (hts _ q6_200) (fun _ h9 => h9) (fl_get (by decide)) dX12_scan_106 ?_
  refine lv_icmp_ne (tgt := 122) hx hb dX12_scan_109 (by decide) (fun c => ?_) (fun c => ?_)
  · replace hF := iF c hF
    refine lv_iload_n hx hb dX12_scan_122 rfl (lv_at hl 0 rfl) ?_
    obtain ⟨q_3, hc_4, hF⟩ := bnd_some hF
    refine cS_i (As := [.int q_1]) (rest := []) C X (c_X12_isLetter l D  q_1 q_3 hc_4 _) (va_cwS 1 hts (good_S q8_85 q8_86 q1_9 q8_87) rfl rfl rfl (by decide +kernel) ⟨Nat.le_of_ble_eq_true rfl, Nat.le_of_ble_eq_true rfl⟩) (eK X) eP (eD (A := A)) (eF X) hl.1 rfl rfl (Nat.le_of_ble_eq_true rfl) dX12_scan_123 ⟨Nat.le_of_ble_eq_true rfl, Nat.le_of_ble_eq_true rfl⟩ (fun t H1 locs1 ht hB hk hS => ?_)
    have X := Hx_after_none X hk hS
    clear hk hS ht hB
    generalize H1 = H at X ⊢
    generalize locs1 = locs at X ⊢
    refine lv_if_eq (tgt := 137) hx hb dX12_scan_126 (by decide) (fun c => ?_) (fun c => ?_)
    · replace hF := iT c hF
      refine lv_iload_n hx hb dX12_scan_137 rfl (lv_at hl 0 rfl) ?_
      obtain ⟨q_5, hc_6, hF⟩ := bnd_some hF
      refine cS_i (As := [.int q_1]) (rest := []) C X (c_X12_isDigit l D  q_1 q_5 hc_6 _) (va_cwS 1 hts (good_S q8_92 q8_93 q1_9 q8_94) rfl rfl rfl (by decide +kernel) ⟨Nat.le_of_ble_eq_true rfl, Nat.le_of_ble_eq_true rfl⟩) (eK X) eP (eD (A := A)) (eF X) hl.1 rfl rfl (Nat.le_of_ble_eq_true rfl) dX12_scan_138 ⟨Nat.le_of_ble_eq_true rfl, Nat.le_of_ble_eq_true rfl⟩ (fun t H1 locs1 ht hB hk hS => ?_)
      have X := Hx_after_none X hk hS
      clear hk hS ht hB
      generalize H1 = H at X ⊢
      generalize locs1 = locs at X ⊢
      refine lv_if_eq (tgt := 152) hx hb dX12_scan_141 (by decide) (fun c => ?_) (fun c => ?_)
      · replace hF := iT c hF
        refine lv_aload_n hx hb dX12_scan_152 rfl (lv_at hl 1 rfl) ?_
        refine lv_iload_n hx hb dX12_scan_153 rfl (lv_at hl 2 rfl) ?_
        obtain ⟨q_7, hc_8, hF⟩ := bnd_some hF
        refine cV_v (As := [.int v1]) (rest := []) C X (c_X12_sign l D hT aT yT gT v1 q_7 hc_8 _) (cwV 1 hts (good_V q8_161 q8_163 q0_75 q1_9 q8_164) rfl rfl rfl (by decide +kernel) ⟨Nat.le_of_ble_eq_true rfl, Nat.le_of_ble_eq_true rfl⟩) (va_recv X.1 X.2.1 (ci := 12) (q0 := 0) rfl rfl) X.1 X.2.1 X.2.2.1 (free_all X) hl.1 rfl rfl (Nat.le_of_ble_eq_true rfl) dX12_scan_154 ⟨Nat.le_of_ble_eq_true rfl, Nat.le_of_ble_eq_true rfl⟩ (fun t H1 locs1 ht hB hk hS => ?_)
        have X : Hx D (tX12 yT) A s H1 locs1 (wX12 hT aT yT q_7) := Hx_after_all X ht hB hS
        clear hk hS ht hB
        generalize H1 = H at X ⊢
        generalize locs1 = locs at X ⊢
        exact (k_X12_scan_157 l D hT aT yT n rec IH) C X (lv_sub hl [1] rfl) hF
      · replace hF := iF c hF
        refine lv_aload_n hx hb dX12_scan_144 rfl (lv_at hl 1 rfl) ?_
        refine lv_iload_n hx hb dX12_scan_145 rfl (lv_at hl 2 rfl) ?_
        obtain ⟨q_11, hc_12, hF⟩ := bnd_some hF
        refine cV_v (As := [.int v1]) (rest := []) C X (c_X12_number l D hT aT yT n gT v1 q_11 hc_12 _) (cwV 1 hts (good_V q8_95 q8_97 q0_70 q1_9 q8_98) rfl rfl rfl (by decide +kernel) ⟨Nat.le_of_ble_eq_true rfl, Nat.le_of_ble_eq_true rfl⟩) (va_recv X.1 X.2.1 (ci := 12) (q0 := 0) rfl rfl) X.1 X.2.1 X.2.2.1 (free_all X) hl.1 rfl rfl (Nat.le_of_ble_eq_true rfl) dX12_scan_146 ⟨Nat.le_of_ble_eq_true rfl, Nat.le_of_ble_eq_true rfl⟩ (fun t H1 locs1 ht hB hk hS => ?_)
        have X : Hx D (tX12 yT) A s H1 locs1 (wX12 hT aT yT q_11) := Hx_after_all X ht hB hS
        clear hk hS ht hB
        generalize H1 = H at X ⊢
        generalize locs1 = locs at X ⊢
        refine lv_goto (tgt := 157) hx hb dX12_scan_149 (by decide) ?_
        exact (k_X12_scan_157 l D hT aT yT n rec IH) C X (lv_sub hl [1] rfl) hF
    · replace hF := iF c hF
      refine lv_aload_n hx hb dX12_scan_129 rfl (lv_at hl 1 rfl) ?_
      refine lv_iload_n hx hb dX12_scan_130 rfl (lv_at hl 2 rfl) ?_
      obtain ⟨q_13, hc_14, hF⟩ := bnd_some hF
      refine cV_v (As := [.int v1]) (rest := []) C X (c_X12_word l D hT aT yT n gT v1 q_13 hc_14 _) (cwV 1 hts (good_V q8_88 q8_90 q0_69 q1_9 q8_91) rfl rfl rfl (by decide +kernel) ⟨Nat.le_of_ble_eq_true rfl, Nat.le_of_ble_eq_true rfl⟩) (va_recv X.1 X.2.1 (ci := 12) (q0 := 0) rfl rfl) X.1 X.2.1 X.2.2.1 (free_all X) hl.1 rfl rfl (Nat.le_of_ble_eq_true rfl) dX12_scan_131 ⟨Nat.le_of_ble_eq_true rfl, Nat.le_of_ble_eq_true rfl⟩ (fun t H1 locs1 ht hB hk hS => ?_)
      have X : Hx D (tX12 yT) A s H1 locs1 (wX12 hT aT yT q_13) := Hx_after_all X ht hB hS
      clear hk hS ht hB
      generalize H1 = H at X ⊢
      generalize locs1 = locs at X ⊢
      refine lv_goto (tgt := 157) hx hb dX12_scan_134 (by decide) ?_
      exact (k_X12_scan_157 l D hT aT yT n rec IH) C X (lv_sub hl [1] rfl) hF
  · replace hF := iT c hF
    refine lv_aload_n hx hb dX12_scan_112 rfl (lv_at hl 1 rfl) ?_
    refine lv_iconst (v := (0 : Int32)) hx hb dX12_scan_113 (by decide) ?_
    refine lv_iload_n hx hb dX12_scan_114 rfl (lv_at hl 2 rfl) ?_
    refine lv_iload_n hx hb dX12_scan_115 rfl (lv_at hl 2 rfl) ?_
    obtain ⟨q_15, hc_16, hF⟩ := bnd_some hF
    refine cV_v (As := [.int (0 : Int32), .int v1, .int v1]) (rest := []) C X (c_X12_token l D hT aT yT gT (0 : Int32) v1 v1 q_15 hc_16 _) (cwV 3 hts (good_V q8_81 q8_83 q0_68 q1_9 q8_84) rfl rfl rfl (by decide +kernel) ⟨Nat.le_of_ble_eq_true rfl, Nat.le_of_ble_eq_true rfl⟩) (va_recv X.1 X.2.1 (ci := 12) (q0 := 0) rfl rfl) X.1 X.2.1 X.2.2.1 (free_all X) hl.1 rfl rfl (Nat.le_of_ble_eq_true rfl) dX12_scan_116 ⟨Nat.le_of_ble_eq_true rfl, Nat.le_of_ble_eq_true rfl⟩ (fun t H1 locs1 ht hB hk hS => ?_)
    have X : Hx D (tX12 yT) A s H1 locs1 (wX12 hT aT yT q_15) := Hx_after_all X ht hB hS
    clear hk hS ht hB
    generalize H1 = H at X ⊢
    generalize locs1 = locs at X ⊢
    refine lv_goto (tgt := 157) hx hb dX12_scan_119 (by decide) ?_
    exact (k_X12_scan_157 l D hT aT yT n rec IH) C X (lv_sub hl [1] rfl) hF
set_option maxHeartbeats 4000000 in
set_option maxRecDepth 100000 in
theorem k_X12_scan_92 (l : Launch) (D : Dx) (hT : Nat) (aT : Nat → Nat) (yT : Nat → ClassId) (n : Nat) (rec : (Gs → Int32 → Option (Gs)) × (Gs → Int32 → Int32 → Option (Gs)) × (Gs → Int32 → Option (Gs))) (IH : SH_X12_scan l D hT aT yT rec) : S_X12_scan_92 l D hT aT yT (b_X12_scan_92 n rec) := by
  intro p e s m args below meth c H locs A ls gT v1 q C X hl hF
  obtain ⟨hx, hb, hr, hml, hown, hts, hlk⟩ := id C
  unfold b_X12_scan_92 at hF
  refine lv_iinc (v := v1 + (1 : Int32)) (lv' := [(1, .int (v1 + (1 : Int32))), (0, .ref hT)]) hx hb dX12_scan_92 hl (k := 1) rfl rfl (by decide) rfl (fun ls hl => ?_)
  refine lv_goto (tgt := 54) hx hb dX12_scan_95 (by decide) ?_
  exact IH.2.2 C X (lv_sub hl [1, 0] rfl) hF
set_option maxHeartbeats 4000000 in
set_option maxRecDepth 100000 in
theorem k_X12_scan_54 (l : Launch) (D : Dx) (hT : Nat) (aT : Nat → Nat) (yT : Nat → ClassId) (n : Nat) (rec : (Gs → Int32 → Option (Gs)) × (Gs → Int32 → Int32 → Option (Gs)) × (Gs → Int32 → Option (Gs))) (IH : SH_X12_scan l D hT aT yT rec) : S_X12_scan_54 l D hT aT yT (h_X12_scan_54 n rec) := by
  intro p e s m args below meth c H locs A ls gT v1 q C X hl hF
  obtain ⟨hx, hb, hr, hml, hown, hts, hlk⟩ := id C
  unfold h_X12_scan_54 at hF
  refine lv_iload_n hx hb dX12_scan_54 rfl (lv_at hl 1 rfl) ?_
  refine lv_aload_n hx hb dX12_scan_55 rfl (lv_at hl 0 rfl) ?_
  refine va_get (D := D.1) (ci := 12) (v := .int (gI gT 6)) (C := RX12) (T := TX12) (N := 114) hx hb hts wi_X12 hown X.1 X.2.1 0 rfl rfl 6 (by decide) (hts _ q6_200) (fun _ h9 => h9) (fl_get (by decide)) dX12_scan_56 ?_
  refine lv_icmp_ge (tgt := 98) hx hb dX12_scan_59 (by decide) (fun c => ?_) (fun c => ?_)
  · replace hF := iT c hF
    exact (k_X12_scan_98 l D hT aT yT n rec IH) C X (lv_sub hl [0, 1] rfl) hF
  · replace hF := iF c hF
    refine lv_aload_n hx hb dX12_scan_62 rfl (lv_at hl 0 rfl) ?_
    refine lv_iload_n hx hb dX12_scan_63 rfl (lv_at hl 1 rfl) ?_
    obtain ⟨q_17, hc_18, hF⟩ := bnd_some hF
    refine cV_i (As := [.int v1]) (rest := []) C X (c_X12_at l D hT aT yT gT v1 q_17 hc_18 _) (cwV 1 hts (good_V q8_77 q8_79 q0_67 q1_9 q8_80) rfl rfl rfl (by decide +kernel) ⟨Nat.le_of_ble_eq_true rfl, Nat.le_of_ble_eq_true rfl⟩) (va_recv X.1 X.2.1 (ci := 12) (q0 := 0) rfl rfl) X.1 X.2.1 X.2.2.1 (free_all X) hl.1 rfl rfl (Nat.le_of_ble_eq_true rfl) dX12_scan_64 ⟨Nat.le_of_ble_eq_true rfl, Nat.le_of_ble_eq_true rfl⟩ (fun t H1 locs1 ht hB hk hS => ?_)
    have X : Hx D (tX12 yT) A s H1 locs1 (wX12 hT aT yT gT) := Hx_after_all X ht hB hS
    clear hk hS ht hB
    generalize H1 = H at X ⊢
    generalize locs1 = locs at X ⊢
    refine lv_bipush (v := (32 : Int32)) hx hb dX12_scan_67 (by decide) ?_
    refine lv_icmp_eq (tgt := 92) hx hb dX12_scan_69 (by decide) (fun c => ?_) (fun c => ?_)
    · replace hF := iT c hF
      exact (k_X12_scan_92 l D hT aT yT n rec IH) C X (lv_sub hl [0, 1] rfl) hF
    · replace hF := iF c hF
      refine lv_aload_n hx hb dX12_scan_72 rfl (lv_at hl 0 rfl) ?_
      refine lv_iload_n hx hb dX12_scan_73 rfl (lv_at hl 1 rfl) ?_
      obtain ⟨q_19, hc_20, hF⟩ := bnd_some hF
      refine cV_i (As := [.int v1]) (rest := []) C X (c_X12_at l D hT aT yT gT v1 q_19 hc_20 _) (cwV 1 hts (good_V q8_77 q8_79 q0_67 q1_9 q8_80) rfl rfl rfl (by decide +kernel) ⟨Nat.le_of_ble_eq_true rfl, Nat.le_of_ble_eq_true rfl⟩) (va_recv X.1 X.2.1 (ci := 12) (q0 := 0) rfl rfl) X.1 X.2.1 X.2.2.1 (free_all X) hl.1 rfl rfl (Nat.le_of_ble_eq_true rfl) dX12_scan_74 ⟨Nat.le_of_ble_eq_true rfl, Nat.le_of_ble_eq_true rfl⟩ (fun t H1 locs1 ht hB hk hS => ?_)
      have X : Hx D (tX12 yT) A s H1 locs1 (wX12 hT aT yT gT) := Hx_after_all X ht hB hS
      clear hk hS ht hB
      generalize H1 = H at X ⊢
      generalize locs1 = locs at X ⊢
      refine lv_bipush (v := (10 : Int32)) hx hb dX12_scan_77 (by decide) ?_
      refine lv_icmp_eq (tgt := 92) hx hb dX12_scan_79 (by decide) (fun c => ?_) (fun c => ?_)
      · replace hF := iT c hF
        exact (k_X12_scan_92 l D hT aT yT n rec IH) C X (lv_sub hl [0, 1] rfl) hF
      · replace hF := iF c hF
        refine lv_aload_n hx hb dX12_scan_82 rfl (lv_at hl 0 rfl) ?_
        refine lv_iload_n hx hb dX12_scan_83 rfl (lv_at hl 1 rfl) ?_
        obtain ⟨q_21, hc_22, hF⟩ := bnd_some hF
        refine cV_i (As := [.int v1]) (rest := []) C X (c_X12_at l D hT aT yT gT v1 q_21 hc_22 _) (cwV 1 hts (good_V q8_77 q8_79 q0_67 q1_9 q8_80) rfl rfl rfl (by decide +kernel) ⟨Nat.le_of_ble_eq_true rfl, Nat.le_of_ble_eq_true rfl⟩) (va_recv X.1 X.2.1 (ci := 12) (q0 := 0) rfl rfl) X.1 X.2.1 X.2.2.1 (free_all X) hl.1 rfl rfl (Nat.le_of_ble_eq_true rfl) dX12_scan_84 ⟨Nat.le_of_ble_eq_true rfl, Nat.le_of_ble_eq_true rfl⟩ (fun t H1 locs1 ht hB hk hS => ?_)
        have X : Hx D (tX12 yT) A s H1 locs1 (wX12 hT aT yT gT) := Hx_after_all X ht hB hS
        clear hk hS ht hB
        generalize H1 = H at X ⊢
        generalize locs1 = locs at X ⊢
        refine lv_bipush (v := (9 : Int32)) hx hb dX12_scan_87 (by decide) ?_
        refine lv_icmp_ne (tgt := 98) hx hb dX12_scan_89 (by decide) (fun c => ?_) (fun c => ?_)
        · replace hF := iF c hF
          exact (k_X12_scan_98 l D hT aT yT n rec IH) C X (lv_sub hl [0, 1] rfl) hF
        · replace hF := iT c hF
          exact (k_X12_scan_92 l D hT aT yT n rec IH) C X (lv_sub hl [0, 1] rfl) hF
set_option maxHeartbeats 4000000 in
set_option maxRecDepth 100000 in
theorem k_X12_scan_50 (l : Launch) (D : Dx) (hT : Nat) (aT : Nat → Nat) (yT : Nat → ClassId) (n : Nat) (rec : (Gs → Int32 → Option (Gs)) × (Gs → Int32 → Int32 → Option (Gs)) × (Gs → Int32 → Option (Gs))) (IH : SH_X12_scan l D hT aT yT rec) : S_X12_scan_50 l D hT aT yT (h_X12_scan_50 n rec) := by
  intro p e s m args below meth c H locs A ls gT v1 v2 q C X hl hF
  obtain ⟨hx, hb, hr, hml, hown, hts, hlk⟩ := id C
  unfold h_X12_scan_50 at hF
  refine lv_iload_n hx hb dX12_scan_50 rfl (lv_at hl 2 rfl) ?_
  refine lv_if_eq (tgt := 202) hx hb dX12_scan_51 (by decide) (fun c => ?_) (fun c => ?_)
  · replace hF := iT c hF
    have hq := Option.some.inj hF
    subst hq
    exact rt_v C X dX12_scan_202
  · replace hF := iF c hF
    exact IH.2.2 C X (lv_sub hl [0, 1] rfl) hF
set_option maxHeartbeats 4000000 in
set_option maxRecDepth 100000 in
theorem k_X12_scan_10 (l : Launch) (D : Dx) (hT : Nat) (aT : Nat → Nat) (yT : Nat → ClassId) (n : Nat) (rec : (Gs → Int32 → Option (Gs)) × (Gs → Int32 → Int32 → Option (Gs)) × (Gs → Int32 → Option (Gs))) (IH : SH_X12_scan l D hT aT yT rec) : S_X12_scan_10 l D hT aT yT (h_X12_scan_10 n rec) := by
  intro p e s m args below meth c H locs A ls gT v1 q C X hl hF
  obtain ⟨hx, hb, hr, hml, hown, hts, hlk⟩ := id C
  unfold h_X12_scan_10 at hF
  refine lv_iload_n hx hb dX12_scan_10 rfl (lv_at hl 1 rfl) ?_
  refine lv_aload_n hx hb dX12_scan_11 rfl (lv_at hl 0 rfl) ?_
  refine va_get (D := D.1) (ci := 12) (v := .int (gI gT 6)) (C := RX12) (T := TX12) (N := 114) hx hb hts wi_X12 hown X.1 X.2.1 0 rfl rfl 6 (by decide) (hts _ q6_200) (fun _ h9 => h9) (fl_get (by decide)) dX12_scan_12 ?_
  refine lv_icmp_ge (tgt := 36) hx hb dX12_scan_15 (by decide) (fun c => ?_) (fun c => ?_)
  · replace hF := iT c hF
    refine lv_aload_n hx hb dX12_scan_36 rfl (lv_at hl 0 rfl) ?_
    refine lv_iconst (v := (0 : Int32)) hx hb dX12_scan_37 (by decide) ?_
    refine va_put (D := D.1) (ci := 12) (v := .int (0 : Int32)) (ty := .int) (C := RX12) (T := TX12) (N := 114) hx hb hts wi_X12 tyX12 tyX12_ok nmX12 hown X.1 X.2.1 X.2.2.1 X.2.2.2.1 0 rfl rfl 4 (by decide) (hts _ q6_198) (fun _ h9 => h9) rfl (by decide +kernel) rfl rfl (by rw [List.length_map, List.length_range]; decide) dX12_scan_38 (fun H locs hP hD hS => ?_)
    have X : Hx D (tX12 yT) A s H locs (wX12 hT aT yT (sI gT 4 (0 : Int32))) := Hx_set X (wG_sI (k := 4) rfl) hP hD hS
    refine lv_aload_n hx hb dX12_scan_41 rfl (lv_at hl 0 rfl) ?_
    refine lv_iconst (v := (0 : Int32)) hx hb dX12_scan_42 (by decide) ?_
    refine va_put (D := D.1) (ci := 12) (v := .int (0 : Int32)) (ty := .int) (C := RX12) (T := TX12) (N := 114) hx hb hts wi_X12 tyX12 tyX12_ok nmX12 hown X.1 X.2.1 X.2.2.1 X.2.2.2.1 0 rfl rfl 8 (by decide) (hts _ q6_202) (fun _ h9 => h9) rfl (by decide +kernel) rfl rfl (by rw [List.length_map, List.length_range]; decide) dX12_scan_43 (fun H locs hP hD hS => ?_)
    have X : Hx D (tX12 yT) A s H locs (wX12 hT aT yT (sI (sI gT 4 (0 : Int32)) 8 (0 : Int32))) := Hx_set X (wG_sI (k := 8) rfl) hP hD hS
    refine lv_iconst (v := (0 : Int32)) hx hb dX12_scan_46 (by decide) ?_
    refine lv_istore_n (lv' := [(1, .int (0 : Int32)), (0, .ref hT)]) hx hb dX12_scan_47 rfl hl (by decide) rfl (fun ls hl => ?_)
    refine lv_iconst (v := (1 : Int32)) hx hb dX12_scan_48 (by decide) ?_
    refine lv_istore_n (lv' := [(2, .int (1 : Int32)), (1, .int (0 : Int32)), (0, .ref hT)]) hx hb dX12_scan_49 rfl hl (by decide) rfl (fun ls hl => ?_)
    exact IH.2.1 C X (lv_sub hl [2, 1, 0] rfl) hF
  · replace hF := iF c hF
    refine lv_aload_n hx hb dX12_scan_18 rfl (lv_at hl 0 rfl) ?_
    refine va_get (D := D.1) (ci := 12) (v := .ref (aT 5)) (C := RX12) (T := TX12) (N := 114) hx hb hts wi_X12 hown X.1 X.2.1 0 rfl rfl 5 (by decide) (hts _ q6_199) (fun _ h9 => h9) (fl_get (by decide)) dX12_scan_19 ?_
    refine lv_iload_n hx hb dX12_scan_22 rfl (lv_at hl 1 rfl) ?_
    refine lv_aload_n hx hb dX12_scan_23 rfl (lv_at hl 0 rfl) ?_
    refine va_get (D := D.1) (ci := 12) (v := .ref (aT 3)) (C := RX12) (T := TX12) (N := 114) hx hb hts wi_X12 hown X.1 X.2.1 0 rfl rfl 3 (by decide) (hts _ q6_197) (fun _ h9 => h9) (fl_get (by decide)) dX12_scan_24 ?_
    refine lv_iload_n hx hb dX12_scan_27 rfl (lv_at hl 1 rfl) ?_
    obtain ⟨h_23, hF⟩ := grd_some hF
    refine va_bald (D := D.1) (f := gIA gT 3) hx hb X.1 X.2.1 1 0 rfl rfl (inB_ok h_23) dX12_scan_28 ?_
    obtain ⟨h_24, hF⟩ := grd_some hF
    refine va_bast (D := D.1) (f := gIA gT 5) hx hb X.1 X.2.1 X.2.2.1 X.2.2.2.1 2 1 rfl rfl (inB_ok h_24) dX12_scan_29 (fun H locs hP hD hS => ?_)
    have X : Hx D (tX12 yT) A s H locs (wX12 hT aT yT (sIA gT 5 (upd (gIA gT 5) v1.toNatClampNeg (vp_nar .byte (gIA gT 3 v1.toNatClampNeg))))) := Hx_set X (wG_sIA (i := 1) (k := 5) ndX12 rfl rfl) hP hD hS
    refine lv_iinc (v := v1 + (1 : Int32)) (lv' := [(1, .int (v1 + (1 : Int32))), (0, .ref hT)]) hx hb dX12_scan_30 hl (k := 1) rfl rfl (by decide) rfl (fun ls hl => ?_)
    refine lv_goto (tgt := 10) hx hb dX12_scan_33 (by decide) ?_
    exact IH.1 C X (lv_sub hl [1, 0] rfl) hF
theorem kL_X12_scan (l : Launch) (D : Dx) (hT : Nat) (aT : Nat → Nat) (yT : Nat → ClassId) (n : Nat) : ∀ k, SH_X12_scan l D hT aT yT (L_X12_scan n k)
  | 0 => ⟨(fun _ _ _ h => by cases h), (fun _ _ _ h => by cases h), (fun _ _ _ h => by cases h)⟩
  | k + 1 => ⟨k_X12_scan_10 l D hT aT yT n _ (kL_X12_scan l D hT aT yT n k), k_X12_scan_50 l D hT aT yT n _ (kL_X12_scan l D hT aT yT n k), k_X12_scan_54 l D hT aT yT n _ (kL_X12_scan l D hT aT yT n k)⟩
set_option maxHeartbeats 4000000 in
set_option maxRecDepth 100000 in
theorem c_X12_scan (l : Launch) (D : Dx) (hT : Nat) (aT : Nat → Nat) (yT : Nat → ClassId) (n : Nat) (gT : Gs) (q : Gs) (hF : f_X12_scan n gT = some q) (sz : Nat) : Met l yX12_scan (ws_ yX12_scan cX12_scan 5 none) R_X12_scan (PC D (tX12 yT) [.ref hT] (wX12 hT aT yT gT) sz) (QV D (va_A (wX12 hT aT yT gT) sz) (wX12 hT aT yT q)) 0 0 (va_A (wX12 hT aT yT gT) sz) := by
  refine Met.ofW (cc := cX12_scan) (maxL := 5) (ret := none) (by decide) rfl ?_
  intro p e s m args below meth c s₁ B hml hv
  obtain ⟨rfl, hsz, hP, hK, hD, hN⟩ := hv
  subst hsz
  have C : Cx p s m _ meth c cX12_scan none 5 RX12 lw_all := Cx_of B hml
  have X := Hx_start hP hK hD hN
  obtain ⟨hx, hb, hr, -, hown, hts, hlk⟩ := id C
  generalize va_A (wX12 hT aT yT gT) s.heap.size = A at X ⊢
  have hl := lv_entry ([.ref hT]) (n := 5) (Nat.le_of_ble_eq_true rfl)
  rw [lg_entry_eq]
  generalize (lg_sl ([.ref hT]) ++ List.replicate (5 - (lg_sl ([.ref hT])).length) Slot.unset).toArray = ls at hl ⊢
  have hl : lv_has ls 5 [(0, .ref hT)] := hl
  unfold f_X12_scan at hF
  refine lv_aload_n hx hb dX12_scan_0 rfl (lv_at hl 0 rfl) ?_
  refine lv_aload_n hx hb dX12_scan_1 rfl (lv_at hl 0 rfl) ?_
  refine va_get (D := D.1) (ci := 12) (v := .int (gI gT 4)) (C := RX12) (T := TX12) (N := 114) hx hb hts wi_X12 hown X.1 X.2.1 0 rfl rfl 4 (by decide) (hts _ q6_198) (fun _ h9 => h9) (fl_get (by decide)) dX12_scan_2 ?_
  refine va_put (D := D.1) (ci := 12) (v := .int (gI gT 4)) (ty := .int) (C := RX12) (T := TX12) (N := 114) hx hb hts wi_X12 tyX12 tyX12_ok nmX12 hown X.1 X.2.1 X.2.2.1 X.2.2.2.1 0 rfl rfl 6 (by decide) (hts _ q6_200) (fun _ h9 => h9) rfl (by decide +kernel) rfl rfl (by rw [List.length_map, List.length_range]; decide) dX12_scan_5 (fun H locs hP hD hS => ?_)
  have X : Hx D (tX12 yT) A s H locs (wX12 hT aT yT (sI gT 6 (gI gT 4))) := Hx_set X (wG_sI (k := 6) rfl) hP hD hS
  refine lv_iconst (v := (0 : Int32)) hx hb dX12_scan_8 (by decide) ?_
  refine lv_istore_n (lv' := [(1, .int (0 : Int32)), (0, .ref hT)]) hx hb dX12_scan_9 rfl hl (by decide) rfl (fun ls hl => ?_)
  exact (kL_X12_scan l D hT aT yT n n).1 C X (lv_sub hl [1, 0] rfl) hF
