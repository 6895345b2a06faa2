theorem q7_20 : Cond.fieldLink RX12 256 "TurningHallModel" "letterMany" "[I" ∈ lw_all := lw_in (tc_7 (List.mem_of_getElem? (i := 20) rfl)) rfl
theorem q7_19 : Cond.fieldLink RX12 253 "TurningHallModel" "letters" "[B" ∈ lw_all := lw_in (tc_7 (List.mem_of_getElem? (i := 19) rfl)) rfl
theorem q7_14 : Cond.fieldLink RX12 238 "TurningHallModel" "many" "I" ∈ lw_all := lw_in (tc_7 (List.mem_of_getElem? (i := 14) rfl)) rfl
theorem q7_15 : Cond.fieldLink RX12 241 "TurningHallModel" "bellMany" "I" ∈ lw_all := lw_in (tc_7 (List.mem_of_getElem? (i := 15) rfl)) rfl
theorem q7_16 : Cond.fieldLink RX12 244 "TurningHallModel" "camMany" "I" ∈ lw_all := lw_in (tc_7 (List.mem_of_getElem? (i := 16) rfl)) rfl
theorem q7_17 : Cond.fieldLink RX12 247 "TurningHallModel" "planNodes" "I" ∈ lw_all := lw_in (tc_7 (List.mem_of_getElem? (i := 17) rfl)) rfl
theorem q7_18 : Cond.fieldLink RX12 250 "TurningHallModel" "plans" "I" ∈ lw_all := lw_in (tc_7 (List.mem_of_getElem? (i := 18) rfl)) rfl
theorem q7_31 : Cond.fieldLink RX12 289 "TurningHallModel" "standings" "I" ∈ lw_all := lw_in (tc_7 (List.mem_of_getElem? (i := 31) rfl)) rfl
theorem q7_42 : Cond.fieldLink RX12 323 "TurningHallModel" "strikes" "I" ∈ lw_all := lw_in (tc_7 (List.mem_of_getElem? (i := 42) rfl)) rfl
theorem q7_23 : Cond.fieldLink RX12 265 "TurningHallModel" "from" "[I" ∈ lw_all := lw_in (tc_7 (List.mem_of_getElem? (i := 23) rfl)) rfl
theorem q7_24 : Cond.fieldLink RX12 268 "TurningHallModel" "then" "[I" ∈ lw_all := lw_in (tc_7 (List.mem_of_getElem? (i := 24) rfl)) rfl
theorem q9_69 : Cond.methodLink RX12 646 yX12_works ∈ lw_all := lw_in (tc_9 (List.mem_of_getElem? (i := 69) rfl)) rfl
theorem q9_71 : Cond.instanceMethod yX12_works ∈ lw_all := lw_in (tc_9 (List.mem_of_getElem? (i := 71) rfl)) rfl
theorem q0_109 : Cond.selects RX12 yX12_works yX12_works ∈ lw_all := lw_in (tc_0 (List.mem_of_getElem? (i := 109) rfl)) rfl
theorem q9_72 : Cond.code yX12_works cX12_works 8 (some .boolean) ∈ lw_all := lw_in (tc_9 (List.mem_of_getElem? (i := 72) rfl)) rfl
theorem q9_138 : Cond.methodLink RX12 649 yX12_jammed ∈ lw_all := lw_in (tc_9 (List.mem_of_getElem? (i := 138) rfl)) rfl
theorem q9_140 : Cond.instanceMethod yX12_jammed ∈ lw_all := lw_in (tc_9 (List.mem_of_getElem? (i := 140) rfl)) rfl
theorem q0_121 : Cond.selects RX12 yX12_jammed yX12_jammed ∈ lw_all := lw_in (tc_0 (List.mem_of_getElem? (i := 121) rfl)) rfl
theorem q9_141 : Cond.code yX12_jammed cX12_jammed 2 none ∈ lw_all := lw_in (tc_9 (List.mem_of_getElem? (i := 141) rfl)) rfl
theorem q7_26 : Cond.fieldLink RX12 274 "TurningHallModel" "got" "[I" ∈ lw_all := lw_in (tc_7 (List.mem_of_getElem? (i := 26) rfl)) rfl
theorem q9_65 : Cond.methodLink RX12 643 yX12_keepName ∈ lw_all := lw_in (tc_9 (List.mem_of_getElem? (i := 65) rfl)) rfl
theorem q9_67 : Cond.instanceMethod yX12_keepName ∈ lw_all := lw_in (tc_9 (List.mem_of_getElem? (i := 67) rfl)) rfl
theorem q0_108 : Cond.selects RX12 yX12_keepName yX12_keepName ∈ lw_all := lw_in (tc_0 (List.mem_of_getElem? (i := 108) rfl)) rfl
theorem q9_68 : Cond.code yX12_keepName cX12_keepName 4 none ∈ lw_all := lw_in (tc_9 (List.mem_of_getElem? (i := 68) rfl)) rfl
theorem q7_28 : Cond.fieldLink RX12 280 "TurningHallModel" "bellFrom" "[I" ∈ lw_all := lw_in (tc_7 (List.mem_of_getElem? (i := 28) rfl)) rfl
theorem q7_29 : Cond.fieldLink RX12 283 "TurningHallModel" "bellTo" "[I" ∈ lw_all := lw_in (tc_7 (List.mem_of_getElem? (i := 29) rfl)) rfl
theorem q7_40 : Cond.fieldLink RX12 316 "TurningHallModel" "counts" "[I" ∈ lw_all := lw_in (tc_7 (List.mem_of_getElem? (i := 40) rfl)) rfl
theorem q7_30 : Cond.fieldLink RX12 286 "TurningHallModel" "standing" "[I" ∈ lw_all := lw_in (tc_7 (List.mem_of_getElem? (i := 30) rfl)) rfl
theorem q7_22 : Cond.fieldLink RX12 262 "TurningHallModel" "isPart" "[Z" ∈ lw_all := lw_in (tc_7 (List.mem_of_getElem? (i := 22) rfl)) rfl
theorem q7_25 : Cond.fieldLink RX12 271 "TurningHallModel" "to" "[I" ∈ lw_all := lw_in (tc_7 (List.mem_of_getElem? (i := 25) rfl)) rfl
theorem q7_27 : Cond.fieldLink RX12 277 "TurningHallModel" "next" "[I" ∈ lw_all := lw_in (tc_7 (List.mem_of_getElem? (i := 27) rfl)) rfl
theorem q9_155 : Cond.methodLink RX12 711 yX12_isCalled ∈ lw_all := lw_in (tc_9 (List.mem_of_getElem? (i := 155) rfl)) rfl
theorem q9_157 : Cond.instanceMethod yX12_isCalled ∈ lw_all := lw_in (tc_9 (List.mem_of_getElem? (i := 157) rfl)) rfl
theorem q0_124 : Cond.selects RX12 yX12_isCalled yX12_isCalled ∈ lw_all := lw_in (tc_0 (List.mem_of_getElem? (i := 124) rfl)) rfl
theorem q9_158 : Cond.code yX12_isCalled cX12_isCalled 6 (some .boolean) ∈ lw_all := lw_in (tc_9 (List.mem_of_getElem? (i := 158) rfl)) rfl
theorem q7_43 : Cond.fieldLink RX12 326 "TurningHallModel" "strikeTick" "[J" ∈ lw_all := lw_in (tc_7 (List.mem_of_getElem? (i := 43) rfl)) rfl
theorem q7_44 : Cond.fieldLink RX12 329 "TurningHallModel" "strikeBell" "[I" ∈ lw_all := lw_in (tc_7 (List.mem_of_getElem? (i := 44) rfl)) rfl
theorem q9_171 : Cond.constantLong RX12 724 (31) ∈ lw_all := lw_in (tc_9 (List.mem_of_getElem? (i := 171) rfl)) rfl
theorem q9_172 : Cond.methodLink RX12 726 yX12_strikes ∈ lw_all := lw_in (tc_9 (List.mem_of_getElem? (i := 172) rfl)) rfl
theorem q9_174 : Cond.instanceMethod yX12_strikes ∈ lw_all := lw_in (tc_9 (List.mem_of_getElem? (i := 174) rfl)) rfl
theorem q0_126 : Cond.selects RX12 yX12_strikes yX12_strikes ∈ lw_all := lw_in (tc_0 (List.mem_of_getElem? (i := 126) rfl)) rfl
theorem q9_175 : Cond.code yX12_strikes cX12_strikes 2 none ∈ lw_all := lw_in (tc_9 (List.mem_of_getElem? (i := 175) rfl)) rfl
theorem q7_36 : Cond.fieldLink RX12 304 "TurningHallModel" "past" "[J" ∈ lw_all := lw_in (tc_7 (List.mem_of_getElem? (i := 36) rfl)) rfl
theorem q9_167 : Cond.methodLink RX12 721 yX12_tick1 ∈ lw_all := lw_in (tc_9 (List.mem_of_getElem? (i := 167) rfl)) rfl
theorem q9_169 : Cond.instanceMethod yX12_tick1 ∈ lw_all := lw_in (tc_9 (List.mem_of_getElem? (i := 169) rfl)) rfl
theorem q0_125 : Cond.selects RX12 yX12_tick1 yX12_tick1 ∈ lw_all := lw_in (tc_0 (List.mem_of_getElem? (i := 125) rfl)) rfl
theorem q9_170 : Cond.code yX12_tick1 cX12_tick1 4 none ∈ lw_all := lw_in (tc_9 (List.mem_of_getElem? (i := 170) rfl)) rfl
theorem q7_51 : Cond.fieldLink RX12 352 "TurningHallModel" "answer" "J" ∈ lw_all := lw_in (tc_7 (List.mem_of_getElem? (i := 51) rfl)) rfl
theorem q7_53 : Cond.fieldLink RX12 358 "TurningHallModel" "written" "I" ∈ lw_all := lw_in (tc_7 (List.mem_of_getElem? (i := 53) rfl)) rfl
theorem q7_55 : Cond.fieldLink RX12 364 "TurningHallModel" "wheels" "I" ∈ lw_all := lw_in (tc_7 (List.mem_of_getElem? (i := 55) rfl)) rfl
theorem q9_196 : Cond.methodLink RX12 728 yX12_rowOfName ∈ lw_all := lw_in (tc_9 (List.mem_of_getElem? (i := 196) rfl)) rfl
theorem q9_198 : Cond.instanceMethod yX12_rowOfName ∈ lw_all := lw_in (tc_9 (List.mem_of_getElem? (i := 198) rfl)) rfl
theorem q0_127 : Cond.selects RX12 yX12_rowOfName yX12_rowOfName ∈ lw_all := lw_in (tc_0 (List.mem_of_getElem? (i := 127) rfl)) rfl
theorem q9_199 : Cond.code yX12_rowOfName cX12_rowOfName 2 (some .int) ∈ lw_all := lw_in (tc_9 (List.mem_of_getElem? (i := 199) rfl)) rfl
/-! ### X12_keepName -/
theorem dX12_keepName_0 : decode cX12_keepName 0 = .ok (.aload_n 0, 1) := by decide +kernel
theorem dX12_keepName_1 : decode cX12_keepName 1 = .ok (.getfield 256, 3) := by decide +kernel
theorem dX12_keepName_4 : decode cX12_keepName 4 = .ok (.iload_n 1, 1) := by decide +kernel
theorem dX12_keepName_5 : decode cX12_keepName 5 = .ok (.aload_n 0, 1) := by decide +kernel
theorem dX12_keepName_6 : decode cX12_keepName 6 = .ok (.getfield 89, 3) := by decide +kernel
theorem dX12_keepName_9 : decode cX12_keepName 9 = .ok (.iload_n 2, 1) := by decide +kernel
theorem dX12_keepName_10 : decode cX12_keepName 10 = .ok (.iaload, 1) := by decide +kernel
theorem dX12_keepName_11 : decode cX12_keepName 11 = .ok (.aload_n 0, 1) := by decide +kernel
theorem dX12_keepName_12 : decode cX12_keepName 12 = .ok (.getfield 86, 3) := by decide +kernel
theorem dX12_keepName_15 : decode cX12_keepName 15 = .ok (.iload_n 2, 1) := by decide +kernel
theorem dX12_keepName_16 : decode cX12_keepName 16 = .ok (.iaload, 1) := by decide +kernel
theorem dX12_keepName_17 : decode cX12_keepName 17 = .ok (.isub, 1) := by decide +kernel
theorem dX12_keepName_18 : decode cX12_keepName 18 = .ok (.iastore, 1) := by decide +kernel
theorem dX12_keepName_19 : decode cX12_keepName 19 = .ok (.iconst 0, 1) := by decide +kernel
theorem dX12_keepName_20 : decode cX12_keepName 20 = .ok (.istore_n 3, 1) := by decide +kernel
theorem dX12_keepName_21 : decode cX12_keepName 21 = .ok (.iload_n 3, 1) := by decide +kernel
theorem dX12_keepName_22 : decode cX12_keepName 22 = .ok (.aload_n 0, 1) := by decide +kernel
theorem dX12_keepName_23 : decode cX12_keepName 23 = .ok (.getfield 256, 3) := by decide +kernel
theorem dX12_keepName_26 : decode cX12_keepName 26 = .ok (.iload_n 1, 1) := by decide +kernel
theorem dX12_keepName_27 : decode cX12_keepName 27 = .ok (.iaload, 1) := by decide +kernel
theorem dX12_keepName_28 : decode cX12_keepName 28 = .ok (.if_icmp .ge 33, 3) := by decide +kernel
theorem dX12_keepName_31 : decode cX12_keepName 31 = .ok (.aload_n 0, 1) := by decide +kernel
theorem dX12_keepName_32 : decode cX12_keepName 32 = .ok (.getfield 253, 3) := by decide +kernel
theorem dX12_keepName_35 : decode cX12_keepName 35 = .ok (.bipush 10, 2) := by decide +kernel
theorem dX12_keepName_37 : decode cX12_keepName 37 = .ok (.iload_n 1, 1) := by decide +kernel
theorem dX12_keepName_38 : decode cX12_keepName 38 = .ok (.imul, 1) := by decide +kernel
theorem dX12_keepName_39 : decode cX12_keepName 39 = .ok (.iload_n 3, 1) := by decide +kernel
theorem dX12_keepName_40 : decode cX12_keepName 40 = .ok (.iadd, 1) := by decide +kernel
theorem dX12_keepName_41 : decode cX12_keepName 41 = .ok (.aload_n 0, 1) := by decide +kernel
theorem dX12_keepName_42 : decode cX12_keepName 42 = .ok (.getfield 17, 3) := by decide +kernel
theorem dX12_keepName_45 : decode cX12_keepName 45 = .ok (.aload_n 0, 1) := by decide +kernel
theorem dX12_keepName_46 : decode cX12_keepName 46 = .ok (.getfield 86, 3) := by decide +kernel
theorem dX12_keepName_49 : decode cX12_keepName 49 = .ok (.iload_n 2, 1) := by decide +kernel
theorem dX12_keepName_50 : decode cX12_keepName 50 = .ok (.iaload, 1) := by decide +kernel
theorem dX12_keepName_51 : decode cX12_keepName 51 = .ok (.iload_n 3, 1) := by decide +kernel
theorem dX12_keepName_52 : decode cX12_keepName 52 = .ok (.iadd, 1) := by decide +kernel
theorem dX12_keepName_53 : decode cX12_keepName 53 = .ok (.baload, 1) := by decide +kernel
theorem dX12_keepName_54 : decode cX12_keepName 54 = .ok (.bastore, 1) := by decide +kernel
theorem dX12_keepName_55 : decode cX12_keepName 55 = .ok (.iinc 3 1, 3) := by decide +kernel
theorem dX12_keepName_58 : decode cX12_keepName 58 = .ok (.goto (-37), 3) := by decide +kernel
theorem dX12_keepName_61 : decode cX12_keepName 61 = .ok (.return_, 1) := by decide +kernel
abbrev R_X12_keepName : Room := ({ frames := 0, cells := 0, slots := 0, locals := 0 } : Room)
def h_X12_keepName_21 (n : Nat) (rec : (Gs → Int32 → Int32 → Int32 → Option (Gs))) (gT : Gs) (v1 : Int32) (v2 : Int32) (v3 : Int32) : Option (Gs) :=
  grd (inB v1 60) (if (gIA gT 66 v1.toNatClampNeg) ≤ v3 then (some gT) else (grd (inB v2 3001) (grd (inB ((gIA gT 10 v2.toNatClampNeg) + v3) 3001) (grd (inB (((10 : Int32) * v1) + v3) 600) (rec (sIA gT 65 (upd (gIA gT 65) (((10 : Int32) * v1) + v3).toNatClampNeg (vp_nar .byte (gIA gT 5 ((gIA gT 10 v2.toNatClampNeg) + v3).toNatClampNeg)))) v1 v2 (v3 + (1 : Int32)))))))
def L_X12_keepName (n : Nat) : Nat → (Gs → Int32 → Int32 → Int32 → Option (Gs))
  | 0 => ((fun _ _ _ _ => none))
  | k + 1 => (h_X12_keepName_21 n (L_X12_keepName n k))
def f_X12_keepName (n : Nat) (gT : Gs) (x0 : Int32) (x1 : Int32) : Option (Gs) :=
  grd (inB x1 3001) (grd (inB x1 3001) (grd (inB x0 60) ((L_X12_keepName n n) (sIA gT 66 (upd (gIA gT 66) x0.toNatClampNeg ((gIA gT 11 x1.toNatClampNeg) - (gIA gT 10 x1.toNatClampNeg)))) x0 x1 (0 : Int32))))
def S_X12_keepName_21 (l : Launch) (D : Dx) (hT : Nat) (aT : Nat → Nat) (yT : Nat → ClassId) (fn : Gs → Int32 → Int32 → Int32 → Option (Gs)) : Prop :=
  ∀ {p : Program} {e : Env} {s : State} {m : MethodId} {args : Array Value} {below : List Frame} {meth : Method} {c : Code} {H : Heap} {locs : List Loc} {A : Nat → Prop} {ls : Array Slot} {gT : Gs} {v1 : Int32} {v2 : Int32} {v3 : Int32} {q : Gs}, Cx p s m args meth c cX12_keepName none 4 RX12 lw_all → Hx D (tX12 yT) A s H locs (wX12 hT aT yT gT) → lv_has ls 4 [(0, .ref hT), (1, .int v1), (2, .int v2), (3, .int v3)] → fn gT v1 v2 v3 = some q → W p l e R_X12_keepName s m args below meth c H locs 0 0 (MQ below (QV D A (wX12 hT aT yT q)) args s 0 0 A) (F0 m 21 ls [])
def SH_X12_keepName (l : Launch) (D : Dx) (hT : Nat) (aT : Nat → Nat) (yT : Nat → ClassId) (rec : (Gs → Int32 → Int32 → Int32 → Option (Gs))) : Prop := S_X12_keepName_21 l D hT aT yT rec
set_option maxHeartbeats 4000000 in
set_option maxRecDepth 100000 in
theorem k_X12_keepName_21 (l : Launch) (D : Dx) (hT : Nat) (aT : Nat → Nat) (yT : Nat → ClassId) (n : Nat) (rec : (Gs → Int32 → Int32 → Int32 → Option (Gs))) (IH : SH_X12_keepName l D hT aT yT rec) : S_X12_keepName_21 l D hT aT yT (h_X12_keepName_21 n rec) := by
  intro p e s m args below meth c H locs A ls gT v1 v2 v3 q C X hl hF
  obtain ⟨hx, hb, hr, hml, hown, hts, hlk⟩ := id C
  unfold h_X12_keepName_21 at hF
  refine lv_iload_n hx hb dX12_keepName_21 rfl (lv_at hl 3 rfl) ?_
  refine lv_aload_n hx hb dX12_keepName_22 rfl (lv_at hl 0 rfl) ?_
  refine va_get (D := D.1) (ci := 12) (v := .ref (aT 66)) (C := RX12) (T := TX12) (N := 114) hx hb hts wi_X12 hown X.1 X.2.1 0 rfl rfl 66 (by decide) (hts _ q7_20) (fun _ h9 => h9) (fl_get (by decide)) dX12_keepName_23 ?_
  refine lv_iload_n hx hb dX12_keepName_26 rfl (lv_at hl 1 rfl) ?_
  obtain ⟨h_4, hF⟩ := grd_some hF
  refine va_iald (D := D.1) (f := gIA gT 66) hx hb X.1 X.2.1 41 40 rfl rfl (inB_ok h_4) dX12_keepName_27 ?_
  refine lv_icmp_ge (tgt := 61) hx hb dX12_keepName_28 (by decide) (fun c => ?_) (fun c => ?_)
  · replace hF := iT c hF
    have hq := Option.some.inj hF
    subst hq
    exact rt_v C X dX12_keepName_61
  · replace hF := iF c hF
    refine lv_aload_n hx hb dX12_keepName_31 rfl (lv_at hl 0 rfl) ?_
    refine va_get (D := D.1) (ci := 12) (v := .ref (aT 65)) (C := RX12) (T := TX12) (N := 114) hx hb hts wi_X12 hown X.1 X.2.1 0 rfl rfl 65 (by decide) (hts _ q7_19) (fun _ h9 => h9) (fl_get (by decide)) dX12_keepName_32 ?_
    refine lv_bipush (v := (10 : Int32)) hx hb dX12_keepName_35 (by decide) ?_
    refine lv_iload_n hx hb dX12_keepName_37 rfl (lv_at hl 1 rfl) ?_
    refine lv_imul hx hb dX12_keepName_38 ?_
    refine lv_iload_n hx hb dX12_keepName_39 rfl (lv_at hl 3 rfl) ?_
    refine lv_iadd hx hb dX12_keepName_40 ?_
    refine lv_aload_n hx hb dX12_keepName_41 rfl (lv_at hl 0 rfl) ?_
    refine va_get (D := D.1) (ci := 12) (v := .ref (aT 5)) (C := RX12) (T := TX12) (N := 114) hx hb hts wi_X12 hown X.1 X.2.1 0 rfl rfl 5 (by decide) (hts _ q6_199) (fun _ h9 => h9) (fl_get (by decide)) dX12_keepName_42 ?_
    refine lv_aload_n hx hb dX12_keepName_45 rfl (lv_at hl 0 rfl) ?_
    refine va_get (D := D.1) (ci := 12) (v := .ref (aT 10)) (C := RX12) (T := TX12) (N := 114) hx hb hts wi_X12 hown X.1 X.2.1 0 rfl rfl 10 (by decide) (hts _ q6_204) (fun _ h9 => h9) (fl_get (by decide)) dX12_keepName_46 ?_
    refine lv_iload_n hx hb dX12_keepName_49 rfl (lv_at hl 2 rfl) ?_
    obtain ⟨h_5, hF⟩ := grd_some hF
    refine va_iald (D := D.1) (f := gIA gT 10) hx hb X.1 X.2.1 5 4 rfl rfl (inB_ok h_5) dX12_keepName_50 ?_
    refine lv_iload_n hx hb dX12_keepName_51 rfl (lv_at hl 3 rfl) ?_
    refine lv_iadd hx hb dX12_keepName_52 ?_
    obtain ⟨h_6, hF⟩ := grd_some hF
    refine va_bald (D := D.1) (f := gIA gT 5) hx hb X.1 X.2.1 2 1 rfl rfl (inB_ok h_6) dX12_keepName_53 ?_
    obtain ⟨h_7, hF⟩ := grd_some hF
    refine va_bast (D := D.1) (f := gIA gT 65) hx hb X.1 X.2.1 X.2.2.1 X.2.2.2.1 40 39 rfl rfl (inB_ok h_7) dX12_keepName_54 (fun H locs hP hD hS => ?_)
    have X : Hx D (tX12 yT) A s H locs (wX12 hT aT yT (sIA gT 65 (upd (gIA gT 65) (((10 : Int32) * v1) + v3).toNatClampNeg (vp_nar .byte (gIA gT 5 ((gIA gT 10 v2.toNatClampNeg) + v3).toNatClampNeg))))) := Hx_set X (wG_sIA (i := 39) (k := 65) ndX12 rfl rfl) hP hD hS
    refine lv_iinc (v := v3 + (1 : Int32)) (lv' := [(3, .int (v3 + (1 : Int32))), (0, .ref hT), (1, .int v1), (2, .int v2)]) hx hb dX12_keepName_55 hl (k := 3) rfl rfl (by decide) rfl (fun ls hl => ?_)
    refine lv_goto (tgt := 21) hx hb dX12_keepName_58 (by decide) ?_
    exact IH C X (lv_sub hl [1, 2, 3, 0] rfl) hF
theorem kL_X12_keepName (l : Launch) (D : Dx) (hT : Nat) (aT : Nat → Nat) (yT : Nat → ClassId) (n : Nat) : ∀ k, SH_X12_keepName l D hT aT yT (L_X12_keepName n k)
  | 0 => fun _ _ _ h => by cases h
  | k + 1 => k_X12_keepName_21 l D hT aT yT n _ (kL_X12_keepName l D hT aT yT n k)
set_option maxHeartbeats 4000000 in
set_option maxRecDepth 100000 in
theorem c_X12_keepName (l : Launch) (D : Dx) (hT : Nat) (aT : Nat → Nat) (yT : Nat → ClassId) (n : Nat) (gT : Gs) (x0 : Int32) (x1 : Int32) (q : Gs) (hF : f_X12_keepName n gT x0 x1 = some q) (sz : Nat) : Met l yX12_keepName (ws_ yX12_keepName cX12_keepName 4 none) R_X12_keepName (PC D (tX12 yT) [.ref hT, .int x0, .int x1] (wX12 hT aT yT gT) sz) (QV D (va_A (wX12 hT aT yT gT) sz) (wX12 hT aT yT q)) 0 0 (va_A (wX12 hT aT yT gT) sz) := by
  refine Met.ofW (cc := cX12_keepName) (maxL := 4) (ret := none) (by decide) rfl ?_
  intro p e s m args below meth c s₁ B hml hv
  obtain ⟨rfl, hsz, hP, hK, hD, hN⟩ := hv
  subst hsz
  have C : Cx p s m _ meth c cX12_keepName none 4 RX12 lw_all := Cx_of B hml
  have X := Hx_start hP hK hD hN
  obtain ⟨hx, hb, hr, -, hown, hts, hlk⟩ := id C
  generalize va_A (wX12 hT aT yT gT) s.heap.size = A at X ⊢
  have hl := lv_entry ([.ref hT, .int x0, .int x1]) (n := 4) (Nat.le_of_ble_eq_true rfl)
  rw [lg_entry_eq]
  generalize (lg_sl ([.ref hT, .int x0, .int x1]) ++ List.replicate (4 - (lg_sl ([.ref hT, .int x0, .int x1])).length) Slot.unset).toArray = ls at hl ⊢
  have hl : lv_has ls 4 [(0, .ref hT), (1, .int x0), (2, .int x1)] := hl
  unfold f_X12_keepName at hF
  refine lv_aload_n hx hb dX12_keepName_0 rfl (lv_at hl 0 rfl) ?_
  refine va_get (D := D.1) (ci := 12) (v := .ref (aT 66)) (C := RX12) (T := TX12) (N := 114) hx hb hts wi_X12 hown X.1 X.2.1 0 rfl rfl 66 (by decide) (hts _ q7_20) (fun _ h9 => h9) (fl_get (by decide)) dX12_keepName_1 ?_
  refine lv_iload_n hx hb dX12_keepName_4 rfl (lv_at hl 1 rfl) ?_
  refine lv_aload_n hx hb dX12_keepName_5 rfl (lv_at hl 0 rfl) ?_
  refine va_get (D := D.1) (ci := 12) (v := .ref (aT 11)) (C := RX12) (T := TX12) (N := 114) hx hb hts wi_X12 hown X.1 X.2.1 0 rfl rfl 11 (by decide) (hts _ q6_205) (fun _ h9 => h9) (fl_get (by decide)) dX12_keepName_6 ?_
  refine lv_iload_n hx hb dX12_keepName_9 rfl (lv_at hl 2 rfl) ?_
  obtain ⟨h_1, hF⟩ := grd_some hF
  refine va_iald (D := D.1) (f := gIA gT 11) hx hb X.1 X.2.1 6 5 rfl rfl (inB_ok h_1) dX12_keepName_10 ?_
  refine lv_aload_n hx hb dX12_keepName_11 rfl (lv_at hl 0 rfl) ?_
  refine va_get (D := D.1) (ci := 12) (v := .ref (aT 10)) (C := RX12) (T := TX12) (N := 114) hx hb hts wi_X12 hown X.1 X.2.1 0 rfl rfl 10 (by decide) (hts _ q6_204) (fun _ h9 => h9) (fl_get (by decide)) dX12_keepName_12 ?_
  refine lv_iload_n hx hb dX12_keepName_15 rfl (lv_at hl 2 rfl) ?_
  obtain ⟨h_2, hF⟩ := grd_some hF
  refine va_iald (D := D.1) (f := gIA gT 10) hx hb X.1 X.2.1 5 4 rfl rfl (inB_ok h_2) dX12_keepName_16 ?_
  refine lv_isub hx hb dX12_keepName_17 ?_
  obtain ⟨h_3, hF⟩ := grd_some hF
  refine va_iast (D := D.1) (f := gIA gT 66) hx hb X.1 X.2.1 X.2.2.1 X.2.2.2.1 41 40 rfl rfl (inB_ok h_3) dX12_keepName_18 (fun H locs hP hD hS => ?_)
  have X : Hx D (tX12 yT) A s H locs (wX12 hT aT yT (sIA gT 66 (upd (gIA gT 66) x0.toNatClampNeg ((gIA gT 11 x1.toNatClampNeg) - (gIA gT 10 x1.toNatClampNeg))))) := Hx_set X (wG_sIA (i := 40) (k := 66) ndX12 rfl rfl) hP hD hS
  refine lv_iconst (v := (0 : Int32)) hx hb dX12_keepName_19 (by decide) ?_
  refine lv_istore_n (lv' := [(3, .int (0 : Int32)), (0, .ref hT), (1, .int x0), (2, .int x1)]) hx hb dX12_keepName_20 rfl hl (by decide) rfl (fun ls hl => ?_)
  exact (kL_X12_keepName l D hT aT yT n n) C X (lv_sub hl [1, 2, 3, 0] rfl) hF

/-! ### X12_isCalled -/
theorem dX12_isCalled_0 : decode cX12_isCalled 0 = .ok (.aload_n 0, 1) := by decide +kernel
theorem dX12_isCalled_1 : decode cX12_isCalled 1 = .ok (.getfield 89, 3) := by decide +kernel
theorem dX12_isCalled_4 : decode cX12_isCalled 4 = .ok (.iload_n 2, 1) := by decide +kernel
theorem dX12_isCalled_5 : decode cX12_isCalled 5 = .ok (.iaload, 1) := by decide +kernel
theorem dX12_isCalled_6 : decode cX12_isCalled 6 = .ok (.aload_n 0, 1) := by decide +kernel
theorem dX12_isCalled_7 : decode cX12_isCalled 7 = .ok (.getfield 86, 3) := by decide +kernel
theorem dX12_isCalled_10 : decode cX12_isCalled 10 = .ok (.iload_n 2, 1) := by decide +kernel
theorem dX12_isCalled_11 : decode cX12_isCalled 11 = .ok (.iaload, 1) := by decide +kernel
theorem dX12_isCalled_12 : decode cX12_isCalled 12 = .ok (.isub, 1) := by decide +kernel
theorem dX12_isCalled_13 : decode cX12_isCalled 13 = .ok (.istore_n 3, 1) := by decide +kernel
theorem dX12_isCalled_14 : decode cX12_isCalled 14 = .ok (.iload_n 3, 1) := by decide +kernel
theorem dX12_isCalled_15 : decode cX12_isCalled 15 = .ok (.aload_n 0, 1) := by decide +kernel
theorem dX12_isCalled_16 : decode cX12_isCalled 16 = .ok (.getfield 256, 3) := by decide +kernel
theorem dX12_isCalled_19 : decode cX12_isCalled 19 = .ok (.iload_n 1, 1) := by decide +kernel
theorem dX12_isCalled_20 : decode cX12_isCalled 20 = .ok (.iaload, 1) := by decide +kernel
theorem dX12_isCalled_21 : decode cX12_isCalled 21 = .ok (.if_icmp .ne 7, 3) := by decide +kernel
theorem dX12_isCalled_24 : decode cX12_isCalled 24 = .ok (.iconst 1, 1) := by decide +kernel
theorem dX12_isCalled_25 : decode cX12_isCalled 25 = .ok (.goto 4, 3) := by decide +kernel
theorem dX12_isCalled_28 : decode cX12_isCalled 28 = .ok (.iconst 0, 1) := by decide +kernel
theorem dX12_isCalled_29 : decode cX12_isCalled 29 = .ok (.istore 4, 2) := by decide +kernel
theorem dX12_isCalled_31 : decode cX12_isCalled 31 = .ok (.iconst 0, 1) := by decide +kernel
theorem dX12_isCalled_32 : decode cX12_isCalled 32 = .ok (.istore 5, 2) := by decide +kernel
theorem dX12_isCalled_34 : decode cX12_isCalled 34 = .ok (.iload 5, 2) := by decide +kernel
theorem dX12_isCalled_36 : decode cX12_isCalled 36 = .ok (.iload_n 3, 1) := by decide +kernel
theorem dX12_isCalled_37 : decode cX12_isCalled 37 = .ok (.if_icmp .ge 50, 3) := by decide +kernel
theorem dX12_isCalled_40 : decode cX12_isCalled 40 = .ok (.iload 4, 2) := by decide +kernel
theorem dX12_isCalled_42 : decode cX12_isCalled 42 = .ok (.ifCond .eq 45, 3) := by decide +kernel
theorem dX12_isCalled_45 : decode cX12_isCalled 45 = .ok (.aload_n 0, 1) := by decide +kernel
theorem dX12_isCalled_46 : decode cX12_isCalled 46 = .ok (.getfield 253, 3) := by decide +kernel
theorem dX12_isCalled_49 : decode cX12_isCalled 49 = .ok (.bipush 10, 2) := by decide +kernel
theorem dX12_isCalled_51 : decode cX12_isCalled 51 = .ok (.iload_n 1, 1) := by decide +kernel
theorem dX12_isCalled_52 : decode cX12_isCalled 52 = .ok (.imul, 1) := by decide +kernel
theorem dX12_isCalled_53 : decode cX12_isCalled 53 = .ok (.iload 5, 2) := by decide +kernel
theorem dX12_isCalled_55 : decode cX12_isCalled 55 = .ok (.iadd, 1) := by decide +kernel
theorem dX12_isCalled_56 : decode cX12_isCalled 56 = .ok (.baload, 1) := by decide +kernel
theorem dX12_isCalled_57 : decode cX12_isCalled 57 = .ok (.aload_n 0, 1) := by decide +kernel
theorem dX12_isCalled_58 : decode cX12_isCalled 58 = .ok (.getfield 17, 3) := by decide +kernel
theorem dX12_isCalled_61 : decode cX12_isCalled 61 = .ok (.aload_n 0, 1) := by decide +kernel
theorem dX12_isCalled_62 : decode cX12_isCalled 62 = .ok (.getfield 86, 3) := by decide +kernel
theorem dX12_isCalled_65 : decode cX12_isCalled 65 = .ok (.iload_n 2, 1) := by decide +kernel
theorem dX12_isCalled_66 : decode cX12_isCalled 66 = .ok (.iaload, 1) := by decide +kernel
theorem dX12_isCalled_67 : decode cX12_isCalled 67 = .ok (.iload 5, 2) := by decide +kernel
theorem dX12_isCalled_69 : decode cX12_isCalled 69 = .ok (.iadd, 1) := by decide +kernel
theorem dX12_isCalled_70 : decode cX12_isCalled 70 = .ok (.baload, 1) := by decide +kernel
theorem dX12_isCalled_71 : decode cX12_isCalled 71 = .ok (.if_icmp .ne 7, 3) := by decide +kernel
theorem dX12_isCalled_74 : decode cX12_isCalled 74 = .ok (.iconst 1, 1) := by decide +kernel
theorem dX12_isCalled_75 : decode cX12_isCalled 75 = .ok (.goto 4, 3) := by decide +kernel
theorem dX12_isCalled_78 : decode cX12_isCalled 78 = .ok (.iconst 0, 1) := by decide +kernel
theorem dX12_isCalled_79 : decode cX12_isCalled 79 = .ok (.istore 4, 2) := by decide +kernel
theorem dX12_isCalled_81 : decode cX12_isCalled 81 = .ok (.iinc 5 1, 3) := by decide +kernel
theorem dX12_isCalled_84 : decode cX12_isCalled 84 = .ok (.goto (-50), 3) := by decide +kernel
theorem dX12_isCalled_87 : decode cX12_isCalled 87 = .ok (.iload 4, 2) := by decide +kernel
theorem dX12_isCalled_89 : decode cX12_isCalled 89 = .ok (.ireturn, 1) := by decide +kernel
abbrev R_X12_isCalled : Room := ({ frames := 0, cells := 0, slots := 0, locals := 0 } : Room)
def b_X12_isCalled_79 (n : Nat) (rec : (Gs → Int32 → Int32 → Int32 → Int32 → Int32 → Option (Int32))) (gT : Gs) (v1 : Int32) (v2 : Int32) (v3 : Int32) (v5 : Int32) (s0 : Int32) : Option (Int32) :=
  rec gT v1 v2 v3 s0 (v5 + (1 : Int32))
def h_X12_isCalled_34 (n : Nat) (rec : (Gs → Int32 → Int32 → Int32 → Int32 → Int32 → Option (Int32))) (gT : Gs) (v1 : Int32) (v2 : Int32) (v3 : Int32) (v4 : Int32) (v5 : Int32) : Option (Int32) :=
  if v3 ≤ v5 then (grd (zB v4) (some v4)) else (if v4 = 0 then (grd (zB v4) (some v4)) else (grd (inB (((10 : Int32) * v1) + v5) 600) (grd (inB v2 3001) (grd (inB ((gIA gT 10 v2.toNatClampNeg) + v5) 3001) (if (gIA gT 65 (((10 : Int32) * v1) + v5).toNatClampNeg) = (gIA gT 5 ((gIA gT 10 v2.toNatClampNeg) + v5).toNatClampNeg) then (b_X12_isCalled_79 n rec gT v1 v2 v3 v5 (1 : Int32)) else (b_X12_isCalled_79 n rec gT v1 v2 v3 v5 (0 : Int32)))))))
def b_X12_isCalled_29 (n : Nat) (rec : (Gs → Int32 → Int32 → Int32 → Int32 → Int32 → Option (Int32))) (gT : Gs) (v1 : Int32) (v2 : Int32) (v3 : Int32) (s0 : Int32) : Option (Int32) :=
  rec gT v1 v2 v3 s0 (0 : Int32)
def L_X12_isCalled (n : Nat) : Nat → (Gs → Int32 → Int32 → Int32 → Int32 → Int32 → Option (Int32))
  | 0 => ((fun _ _ _ _ _ _ => none))
  | k + 1 => (h_X12_isCalled_34 n (L_X12_isCalled n k))
def f_X12_isCalled (n : Nat) (gT : Gs) (x0 : Int32) (x1 : Int32) : Option (Int32) :=
  grd (inB x1 3001) (grd (inB x1 3001) (grd (inB x0 60) (if ((gIA gT 11 x1.toNatClampNeg) - (gIA gT 10 x1.toNatClampNeg)) = (gIA gT 66 x0.toNatClampNeg) then (b_X12_isCalled_29 n (L_X12_isCalled n n) gT x0 x1 ((gIA gT 11 x1.toNatClampNeg) - (gIA gT 10 x1.toNatClampNeg)) (1 : Int32)) else (b_X12_isCalled_29 n (L_X12_isCalled n n) gT x0 x1 ((gIA gT 11 x1.toNatClampNeg) - (gIA gT 10 x1.toNatClampNeg)) (0 : Int32)))))
def S_X12_isCalled_79 (l : Launch) (D : Dx) (hT : Nat) (aT : Nat → Nat) (yT : Nat → ClassId) (fn : Gs → Int32 → Int32 → Int32 → Int32 → Int32 → Option (Int32)) : Prop :=
  ∀ {p : Program} {e : Env} {s : State} {m : MethodId} {args : Array Value} {below : List Frame} {meth : Method} {c : Code} {H : Heap} {locs : List Loc} {A : Nat → Prop} {ls : Array Slot} {gT : Gs} {v1 : Int32} {v2 : Int32} {v3 : Int32} {v5 : Int32} {s0 : Int32} {q : Int32}, Cx p s m args meth c cX12_isCalled (some .boolean) 6 RX12 lw_all → Hx D (tX12 yT) A s H locs (wX12 hT aT yT gT) → lv_has ls 6 [(0, .ref hT), (1, .int v1), (2, .int v2), (3, .int v3), (5, .int v5)] → fn gT v1 v2 v3 v5 s0 = some q → W p l e R_X12_isCalled s m args below meth c H locs 0 0 (MQ below (QI D A (wX12 hT aT yT gT) q) args s 0 0 A) (F0 m 79 ls [.int s0])
def S_X12_isCalled_34 (l : Launch) (D : Dx) (hT : Nat) (aT : Nat → Nat) (yT : Nat → ClassId) (fn : Gs → Int32 → Int32 → Int32 → Int32 → Int32 → Option (Int32)) : Prop :=
  ∀ {p : Program} {e : Env} {s : State} {m : MethodId} {args : Array Value} {below : List Frame} {meth : Method} {c : Code} {H : Heap} {locs : List Loc} {A : Nat → Prop} {ls : Array Slot} {gT : Gs} {v1 : Int32} {v2 : Int32} {v3 : Int32} {v4 : Int32} {v5 : Int32} {q : Int32}, Cx p s m args meth c cX12_isCalled (some .boolean) 6 RX12 lw_all → Hx D (tX12 yT) A s H locs (wX12 hT aT yT gT) → lv_has ls 6 [(0, .ref hT), (1, .int v1), (2, .int v2), (3, .int v3), (4, .int v4), (5, .int v5)] → fn gT v1 v2 v3 v4 v5 = some q → W p l e R_X12_isCalled s m args below meth c H locs 0 0 (MQ below (QI D A (wX12 hT aT yT gT) q) args s 0 0 A) (F0 m 34 ls [])
def S_X12_isCalled_29 (l : Launch) (D : Dx) (hT : Nat) (aT : Nat → Nat) (yT : Nat → ClassId) (fn : Gs → Int32 → Int32 → Int32 → Int32 → Option (Int32)) : Prop :=
  ∀ {p : Program} {e : Env} {s : State} {m : MethodId} {args : Array Value} {below : List Frame} {meth : Method} {c : Code} {H : Heap} {locs : List Loc} {A : Nat → Prop} {ls : Array Slot} {gT : Gs} {v1 : Int32} {v2 : Int32} {v3 : Int32} {s0 : Int32} {q : Int32}, Cx p s m args meth c cX12_isCalled (some .boolean) 6 RX12 lw_all → Hx D (tX12 yT) A s H locs (wX12 hT aT yT gT) → lv_has ls 6 [(0, .ref hT), (1, .int v1), (2, .int v2), (3, .int v3)] → fn gT v1 v2 v3 s0 = some q → W p l e R_X12_isCalled s m args below meth c H locs 0 0 (MQ below (QI D A (wX12 hT aT yT gT) q) args s 0 0 A) (F0 m 29 ls [.int s0])
def SH_X12_isCalled (l : Launch) (D : Dx) (hT : Nat) (aT : Nat → Nat) (yT : Nat → ClassId) (rec : (Gs → Int32 → Int32 → Int32 → Int32 → Int32 → Option (Int32))) : Prop := S_X12_isCalled_34 l D hT aT yT rec
set_option maxHeartbeats 4000000 in
set_option maxRecDepth 100000 in
theorem k_X12_isCalled_79 (l : Launch) (D : Dx) (hT : Nat) (aT : Nat → Nat) (yT : Nat → ClassId) (n : Nat) (rec : (Gs → Int32 → Int32 → Int32 → Int32 → Int32 → Option (Int32))) (IH : SH_X12_isCalled l D hT aT yT rec) : S_X12_isCalled_79 l D hT aT yT (b_X12_isCalled_79 n rec) := by
  intro p e s m args below meth c H locs A ls gT v1 v2 v3 v5 s0 q C X hl hF
  obtain ⟨hx, hb, hr, hml, hown, hts, hlk⟩ := id C
  unfold b_X12_isCalled_79 at hF
  refine lv_istore (lv' := [(4, .int s0), (0, .ref hT), (1, .int v1), (2, .int v2), (3, .int v3), (5, .int v5)]) hx hb dX12_isCalled_79 hl (by decide) rfl (fun ls hl => ?_)
  refine lv_iinc (v := v5 + (1 : Int32)) (lv' := [(5, .int (v5 + (1 : Int32))), (4, .int s0), (0, .ref hT), (1, .int v1), (2, .int v2), (3, .int v3)]) hx hb dX12_isCalled_81 hl (k := 5) rfl rfl (by decide) rfl (fun ls hl => ?_)
  refine lv_goto (tgt := 34) hx hb dX12_isCalled_84 (by decide) ?_
  exact IH C X (lv_sub hl [2, 3, 4, 5, 1, 0] rfl) hF
set_option maxHeartbeats 4000000 in
set_option maxRecDepth 100000 in
theorem k_X12_isCalled_34 (l : Launch) (D : Dx) (hT : Nat) (aT : Nat → Nat) (yT : Nat → ClassId) (n : Nat) (rec : (Gs → Int32 → Int32 → Int32 → Int32 → Int32 → Option (Int32))) (IH : SH_X12_isCalled l D hT aT yT rec) : S_X12_isCalled_34 l D hT aT yT (h_X12_isCalled_34 n rec) := by
  intro p e s m args below meth c H locs A ls gT v1 v2 v3 v4 v5 q C X hl hF
  obtain ⟨hx, hb, hr, hml, hown, hts, hlk⟩ := id C
  unfold h_X12_isCalled_34 at hF
  refine lv_iload hx hb dX12_isCalled_34 (lv_at hl 5 rfl) ?_
  refine lv_iload_n hx hb dX12_isCalled_36 rfl (lv_at hl 3 rfl) ?_
  refine lv_icmp_ge (tgt := 87) hx hb dX12_isCalled_37 (by decide) (fun c => ?_) (fun c => ?_)
  · replace hF := iT c hF
    refine lv_iload hx hb dX12_isCalled_87 (lv_at hl 4 rfl) ?_
    obtain ⟨h_4, hF⟩ := grd_some hF
    have hq := Option.some.inj hF
    subst hq
    exact rt_z (v := v4) C X (zB_n h_4) dX12_isCalled_89
  · replace hF := iF c hF
    refine lv_iload hx hb dX12_isCalled_40 (lv_at hl 4 rfl) ?_
    refine lv_if_eq (tgt := 87) hx hb dX12_isCalled_42 (by decide) (fun c => ?_) (fun c => ?_)
    · replace hF := iT c hF
      refine lv_iload hx hb dX12_isCalled_87 (lv_at hl 4 rfl) ?_
      obtain ⟨h_5, hF⟩ := grd_some hF
      have hq := Option.some.inj hF
      subst hq
      exact rt_z (v := v4) C X (zB_n h_5) dX12_isCalled_89
    · replace hF := iF c hF
      refine lv_aload_n hx hb dX12_isCalled_45 rfl (lv_at hl 0 rfl) ?_
      refine va_get (D := D.1) (ci := 12) (v := .ref (aT 65)) (C := RX12) (T := TX12) (N := 114) hx hb hts wi_X12 hown X.1 X.2.1 0 rfl rfl 65 (by decide) (hts _ q7_19) (fun _ h9 => h9) (fl_get (by decide)) dX12_isCalled_46 ?_
      refine lv_bipush (v := (10 : Int32)) hx hb dX12_isCalled_49 (by decide) ?_
      refine lv_iload_n hx hb dX12_isCalled_51 rfl (lv_at hl 1 rfl) ?_
      refine lv_imul hx hb dX12_isCalled_52 ?_
      refine lv_iload hx hb dX12_isCalled_53 (lv_at hl 5 rfl) ?_
      refine lv_iadd hx hb dX12_isCalled_55 ?_
      obtain ⟨h_6, hF⟩ := grd_some hF
      refine va_bald (D := D.1) (f := gIA gT 65) hx hb X.1 X.2.1 40 39 rfl rfl (inB_ok h_6) dX12_isCalled_56 ?_
      refine lv_aload_n hx hb dX12_isCalled_57 rfl (lv_at hl 0 rfl) ?_
      refine va_get (D := D.1) (ci := 12) (v := .ref (aT 5)) (C := RX12) (T := TX12) (N := 114) hx hb hts wi_X12 hown X.1 X.2.1 0 rfl rfl 5 (by decide) (hts _ q6_199) (fun _ h9 => h9) (fl_get (by decide)) dX12_isCalled_58 ?_
      refine lv_aload_n hx hb dX12_isCalled_61 rfl (lv_at hl 0 rfl) ?_
      refine va_get (D := D.1) (ci := 12) (v := .ref (aT 10)) (C := RX12) (T := TX12) (N := 114) hx hb hts wi_X12 hown X.1 X.2.1 0 rfl rfl 10 (by decide) (hts _ q6_204) (fun _ h9 => h9) (fl_get (by decide)) dX12_isCalled_62 ?_
      refine lv_iload_n hx hb dX12_isCalled_65 rfl (lv_at hl 2 rfl) ?_
      obtain ⟨h_7, hF⟩ := grd_some hF
      refine va_iald (D := D.1) (f := gIA gT 10) hx hb X.1 X.2.1 5 4 rfl rfl (inB_ok h_7) dX12_isCalled_66 ?_
      refine lv_iload hx hb dX12_isCalled_67 (lv_at hl 5 rfl) ?_
      refine lv_iadd hx hb dX12_isCalled_69 ?_
      obtain ⟨h_8, hF⟩ := grd_some hF
      refine va_bald (D := D.1) (f := gIA gT 5) hx hb X.1 X.2.1 2 1 rfl rfl (inB_ok h_8) dX12_isCalled_70 ?_
      refine lv_icmp_ne (tgt := 78) hx hb dX12_isCalled_71 (by decide) (fun c => ?_) (fun c => ?_)
      · replace hF := iF c hF
        refine lv_iconst (v := (0 : Int32)) hx hb dX12_isCalled_78 (by decide) ?_
        exact (k_X12_isCalled_79 l D hT aT yT n rec IH) C X (lv_sub hl [0, 1, 2, 3, 5] rfl) hF
      · replace hF := iT c hF
        refine lv_iconst (v := (1 : Int32)) hx hb dX12_isCalled_74 (by decide) ?_
        refine lv_goto (tgt := 79) hx hb dX12_isCalled_75 (by decide) ?_
        exact (k_X12_isCalled_79 l D hT aT yT n rec IH) C X (lv_sub hl [0, 1, 2, 3, 5] rfl) hF
set_option maxHeartbeats 4000000 in
set_option maxRecDepth 100000 in
theorem k_X12_isCalled_29 (l : Launch) (D : Dx) (hT : Nat) (aT : Nat → Nat) (yT : Nat → ClassId) (n : Nat) (rec : (Gs → Int32 → Int32 → Int32 → Int32 → Int32 → Option (Int32))) (IH : SH_X12_isCalled l D hT aT yT rec) : S_X12_isCalled_29 l D hT aT yT (b_X12_isCalled_29 n rec) := by
  intro p e s m args below meth c H locs A ls gT v1 v2 v3 s0 q C X hl hF
  obtain ⟨hx, hb, hr, hml, hown, hts, hlk⟩ := id C
  unfold b_X12_isCalled_29 at hF
  refine lv_istore (lv' := [(4, .int s0), (0, .ref hT), (1, .int v1), (2, .int v2), (3, .int v3)]) hx hb dX12_isCalled_29 hl (by decide) rfl (fun ls hl => ?_)
  refine lv_iconst (v := (0 : Int32)) hx hb dX12_isCalled_31 (by decide) ?_
  refine lv_istore (lv' := [(5, .int (0 : Int32)), (4, .int s0), (0, .ref hT), (1, .int v1), (2, .int v2), (3, .int v3)]) hx hb dX12_isCalled_32 hl (by decide) rfl (fun ls hl => ?_)
  exact IH C X (lv_sub hl [2, 3, 4, 5, 1, 0] rfl) hF
theorem kL_X12_isCalled (l : Launch) (D : Dx) (hT : Nat) (aT : Nat → Nat) (yT : Nat → ClassId) (n : Nat) : ∀ k, SH_X12_isCalled l D hT aT yT (L_X12_isCalled n k)
  | 0 => fun _ _ _ h => by cases h
  | k + 1 => k_X12_isCalled_34 l D hT aT yT n _ (kL_X12_isCalled l D hT aT yT n k)
set_option maxHeartbeats 4000000 in
set_option maxRecDepth 100000 in
theorem c_X12_isCalled (l : Launch) (D : Dx) (hT : Nat) (aT : Nat → Nat) (yT : Nat → ClassId) (n : Nat) (gT : Gs) (x0 : Int32) (x1 : Int32) (q : Int32) (hF : f_X12_isCalled n gT x0 x1 = some q) (sz : Nat) : Met l yX12_isCalled (ws_ yX12_isCalled cX12_isCalled 6 (some .boolean)) R_X12_isCalled (PC D (tX12 yT) [.ref hT, .int x0, .int x1] (wX12 hT aT yT gT) sz) (QI D (va_A (wX12 hT aT yT gT) sz) (wX12 hT aT yT gT) q) 0 0 (va_A (wX12 hT aT yT gT) sz) := by
  refine Met.ofW (cc := cX12_isCalled) (maxL := 6) (ret := (some .boolean)) (by decide) rfl ?_
  intro p e s m args below meth c s₁ B hml hv
  obtain ⟨rfl, hsz, hP, hK, hD, hN⟩ := hv
  subst hsz
  have C : Cx p s m _ meth c cX12_isCalled (some .boolean) 6 RX12 lw_all := Cx_of B hml
  have X := Hx_start hP hK hD hN
  obtain ⟨hx, hb, hr, -, hown, hts, hlk⟩ := id C
  generalize va_A (wX12 hT aT yT gT) s.heap.size = A at X ⊢
  have hl := lv_entry ([.ref hT, .int x0, .int x1]) (n := 6) (Nat.le_of_ble_eq_true rfl)
  rw [lg_entry_eq]
  generalize (lg_sl ([.ref hT, .int x0, .int x1]) ++ List.replicate (6 - (lg_sl ([.ref hT, .int x0, .int x1])).length) Slot.unset).toArray = ls at hl ⊢
  have hl : lv_has ls 6 [(0, .ref hT), (1, .int x0), (2, .int x1)] := hl
  unfold f_X12_isCalled at hF
  refine lv_aload_n hx hb dX12_isCalled_0 rfl (lv_at hl 0 rfl) ?_
  refine va_get (D := D.1) (ci := 12) (v := .ref (aT 11)) (C := RX12) (T := TX12) (N := 114) hx hb hts wi_X12 hown X.1 X.2.1 0 rfl rfl 11 (by decide) (hts _ q6_205) (fun _ h9 => h9) (fl_get (by decide)) dX12_isCalled_1 ?_
  refine lv_iload_n hx hb dX12_isCalled_4 rfl (lv_at hl 2 rfl) ?_
  obtain ⟨h_1, hF⟩ := grd_some hF
  refine va_iald (D := D.1) (f := gIA gT 11) hx hb X.1 X.2.1 6 5 rfl rfl (inB_ok h_1) dX12_isCalled_5 ?_
  refine lv_aload_n hx hb dX12_isCalled_6 rfl (lv_at hl 0 rfl) ?_
  refine va_get (D := D.1) (ci := 12) (v := .ref (aT 10)) (C := RX12) (T := TX12) (N := 114) hx hb hts wi_X12 hown X.1 X.2.1 0 rfl rfl 10 (by decide) (hts _ q6_204) (fun _ h9 => h9) (fl_get (by decide)) dX12_isCalled_7 ?_
  refine lv_iload_n hx hb dX12_isCalled_10 rfl (lv_at hl 2 rfl) ?_
  obtain ⟨h_2, hF⟩ := grd_some hF
  refine va_iald (D := D.1) (f := gIA gT 10) hx hb X.1 X.2.1 5 4 rfl rfl (inB_ok h_2) dX12_isCalled_11 ?_
  refine lv_isub hx hb dX12_isCalled_12 ?_
  refine lv_istore_n (lv' := [(3, .int ((gIA gT 11 x1.toNatClampNeg) - (gIA gT 10 x1.toNatClampNeg))), (0, .ref hT), (1, .int x0), (2, .int x1)]) hx hb dX12_isCalled_13 rfl hl (by decide) rfl (fun ls hl => ?_)
  refine lv_iload_n hx hb dX12_isCalled_14 rfl (lv_at hl 0 rfl) ?_
  refine lv_aload_n hx hb dX12_isCalled_15 rfl (lv_at hl 1 rfl) ?_
  refine va_get (D := D.1) (ci := 12) (v := .ref (aT 66)) (C := RX12) (T := TX12) (N := 114) hx hb hts wi_X12 hown X.1 X.2.1 0 rfl rfl 66 (by decide) (hts _ q7_20) (fun _ h9 => h9) (fl_get (by decide)) dX12_isCalled_16 ?_
  refine lv_iload_n hx hb dX12_isCalled_19 rfl (lv_at hl 2 rfl) ?_
  obtain ⟨h_3, hF⟩ := grd_some hF
  refine va_iald (D := D.1) (f := gIA gT 66) hx hb X.1 X.2.1 41 40 rfl rfl (inB_ok h_3) dX12_isCalled_20 ?_
  refine lv_icmp_ne (tgt := 28) hx hb dX12_isCalled_21 (by decide) (fun c => ?_) (fun c => ?_)
  · replace hF := iF c hF
    refine lv_iconst (v := (0 : Int32)) hx hb dX12_isCalled_28 (by decide) ?_
    exact (k_X12_isCalled_29 l D hT aT yT n (L_X12_isCalled n n) (kL_X12_isCalled l D hT aT yT n n)) C X (lv_sub hl [1, 2, 3, 0] rfl) hF
  · replace hF := iT c hF
    refine lv_iconst (v := (1 : Int32)) hx hb dX12_isCalled_24 (by decide) ?_
    refine lv_goto (tgt := 29) hx hb dX12_isCalled_25 (by decide) ?_
    exact (k_X12_isCalled_29 l D hT aT yT n (L_X12_isCalled n n) (kL_X12_isCalled l D hT aT yT n n)) C X (lv_sub hl [1, 2, 3, 0] rfl) hF

/-! ### X12_settle -/
theorem dX12_settle_0 : decode cX12_settle 0 = .ok (.aload_n 0, 1) := by decide +kernel
theorem dX12_settle_1 : decode cX12_settle 1 = .ok (.getfield 113, 3) := by decide +kernel
theorem dX12_settle_4 : decode cX12_settle 4 = .ok (.sipush 2000, 3) := by decide +kernel
theorem dX12_settle_7 : decode cX12_settle 7 = .ok (.isub, 1) := by decide +kernel
theorem dX12_settle_8 : decode cX12_settle 8 = .ok (.istore_n 1, 1) := by decide +kernel
theorem dX12_settle_9 : decode cX12_settle 9 = .ok (.iconst 0, 1) := by decide +kernel
theorem dX12_settle_10 : decode cX12_settle 10 = .ok (.istore_n 2, 1) := by decide +kernel
theorem dX12_settle_11 : decode cX12_settle 11 = .ok (.iload_n 2, 1) := by decide +kernel
theorem dX12_settle_12 : decode cX12_settle 12 = .ok (.iload_n 1, 1) := by decide +kernel
theorem dX12_settle_13 : decode cX12_settle 13 = .ok (.if_icmp .ge 144, 3) := by decide +kernel
theorem dX12_settle_16 : decode cX12_settle 16 = .ok (.sipush 2000, 3) := by decide +kernel
theorem dX12_settle_19 : decode cX12_settle 19 = .ok (.iload_n 2, 1) := by decide +kernel
theorem dX12_settle_20 : decode cX12_settle 20 = .ok (.iadd, 1) := by decide +kernel
theorem dX12_settle_21 : decode cX12_settle 21 = .ok (.istore_n 3, 1) := by decide +kernel
theorem dX12_settle_22 : decode cX12_settle 22 = .ok (.aload_n 0, 1) := by decide +kernel
theorem dX12_settle_23 : decode cX12_settle 23 = .ok (.getfield 98, 3) := by decide +kernel
theorem dX12_settle_26 : decode cX12_settle 26 = .ok (.iload_n 3, 1) := by decide +kernel
theorem dX12_settle_27 : decode cX12_settle 27 = .ok (.iaload, 1) := by decide +kernel
theorem dX12_settle_28 : decode cX12_settle 28 = .ok (.bipush 13, 2) := by decide +kernel
theorem dX12_settle_30 : decode cX12_settle 30 = .ok (.if_icmp .eq 36, 3) := by decide +kernel
theorem dX12_settle_33 : decode cX12_settle 33 = .ok (.aload_n 0, 1) := by decide +kernel
theorem dX12_settle_34 : decode cX12_settle 34 = .ok (.getfield 98, 3) := by decide +kernel
theorem dX12_settle_37 : decode cX12_settle 37 = .ok (.iload_n 3, 1) := by decide +kernel
theorem dX12_settle_38 : decode cX12_settle 38 = .ok (.iaload, 1) := by decide +kernel
theorem dX12_settle_39 : decode cX12_settle 39 = .ok (.bipush 15, 2) := by decide +kernel
theorem dX12_settle_41 : decode cX12_settle 41 = .ok (.if_icmp .eq 25, 3) := by decide +kernel
theorem dX12_settle_44 : decode cX12_settle 44 = .ok (.aload_n 0, 1) := by decide +kernel
theorem dX12_settle_45 : decode cX12_settle 45 = .ok (.getfield 98, 3) := by decide +kernel
theorem dX12_settle_48 : decode cX12_settle 48 = .ok (.iload_n 3, 1) := by decide +kernel
theorem dX12_settle_49 : decode cX12_settle 49 = .ok (.iaload, 1) := by decide +kernel
theorem dX12_settle_50 : decode cX12_settle 50 = .ok (.bipush 17, 2) := by decide +kernel
theorem dX12_settle_52 : decode cX12_settle 52 = .ok (.if_icmp .eq 14, 3) := by decide +kernel
theorem dX12_settle_55 : decode cX12_settle 55 = .ok (.aload_n 0, 1) := by decide +kernel
theorem dX12_settle_56 : decode cX12_settle 56 = .ok (.getfield 98, 3) := by decide +kernel
theorem dX12_settle_59 : decode cX12_settle 59 = .ok (.iload_n 3, 1) := by decide +kernel
theorem dX12_settle_60 : decode cX12_settle 60 = .ok (.iaload, 1) := by decide +kernel
theorem dX12_settle_61 : decode cX12_settle 61 = .ok (.bipush 18, 2) := by decide +kernel
theorem dX12_settle_63 : decode cX12_settle 63 = .ok (.if_icmp .ne 7, 3) := by decide +kernel
theorem dX12_settle_66 : decode cX12_settle 66 = .ok (.iconst 1, 1) := by decide +kernel
theorem dX12_settle_67 : decode cX12_settle 67 = .ok (.goto 4, 3) := by decide +kernel
theorem dX12_settle_70 : decode cX12_settle 70 = .ok (.iconst 0, 1) := by decide +kernel
theorem dX12_settle_71 : decode cX12_settle 71 = .ok (.istore 4, 2) := by decide +kernel
theorem dX12_settle_73 : decode cX12_settle 73 = .ok (.aload_n 0, 1) := by decide +kernel
theorem dX12_settle_74 : decode cX12_settle 74 = .ok (.getfield 98, 3) := by decide +kernel
theorem dX12_settle_77 : decode cX12_settle 77 = .ok (.iload_n 2, 1) := by decide +kernel
theorem dX12_settle_78 : decode cX12_settle 78 = .ok (.aload_n 0, 1) := by decide +kernel
theorem dX12_settle_79 : decode cX12_settle 79 = .ok (.getfield 98, 3) := by decide +kernel
theorem dX12_settle_82 : decode cX12_settle 82 = .ok (.iload_n 3, 1) := by decide +kernel
theorem dX12_settle_83 : decode cX12_settle 83 = .ok (.iaload, 1) := by decide +kernel
theorem dX12_settle_84 : decode cX12_settle 84 = .ok (.iastore, 1) := by decide +kernel
theorem dX12_settle_85 : decode cX12_settle 85 = .ok (.aload_n 0, 1) := by decide +kernel
theorem dX12_settle_86 : decode cX12_settle 86 = .ok (.getfield 101, 3) := by decide +kernel
theorem dX12_settle_89 : decode cX12_settle 89 = .ok (.iload_n 2, 1) := by decide +kernel
theorem dX12_settle_90 : decode cX12_settle 90 = .ok (.iload 4, 2) := by decide +kernel
theorem dX12_settle_92 : decode cX12_settle 92 = .ok (.ifCond .eq 16, 3) := by decide +kernel
theorem dX12_settle_95 : decode cX12_settle 95 = .ok (.aload_n 0, 1) := by decide +kernel
theorem dX12_settle_96 : decode cX12_settle 96 = .ok (.getfield 101, 3) := by decide +kernel
theorem dX12_settle_99 : decode cX12_settle 99 = .ok (.iload_n 3, 1) := by decide +kernel
theorem dX12_settle_100 : decode cX12_settle 100 = .ok (.iaload, 1) := by decide +kernel
theorem dX12_settle_101 : decode cX12_settle 101 = .ok (.sipush 2000, 3) := by decide +kernel
theorem dX12_settle_104 : decode cX12_settle 104 = .ok (.isub, 1) := by decide +kernel
theorem dX12_settle_105 : decode cX12_settle 105 = .ok (.goto 9, 3) := by decide +kernel
theorem dX12_settle_108 : decode cX12_settle 108 = .ok (.aload_n 0, 1) := by decide +kernel
theorem dX12_settle_109 : decode cX12_settle 109 = .ok (.getfield 101, 3) := by decide +kernel
theorem dX12_settle_112 : decode cX12_settle 112 = .ok (.iload_n 3, 1) := by decide +kernel
theorem dX12_settle_113 : decode cX12_settle 113 = .ok (.iaload, 1) := by decide +kernel
theorem dX12_settle_114 : decode cX12_settle 114 = .ok (.iastore, 1) := by decide +kernel
theorem dX12_settle_115 : decode cX12_settle 115 = .ok (.aload_n 0, 1) := by decide +kernel
theorem dX12_settle_116 : decode cX12_settle 116 = .ok (.getfield 104, 3) := by decide +kernel
theorem dX12_settle_119 : decode cX12_settle 119 = .ok (.iload_n 2, 1) := by decide +kernel
theorem dX12_settle_120 : decode cX12_settle 120 = .ok (.aload_n 0, 1) := by decide +kernel
theorem dX12_settle_121 : decode cX12_settle 121 = .ok (.getfield 104, 3) := by decide +kernel
theorem dX12_settle_124 : decode cX12_settle 124 = .ok (.iload_n 3, 1) := by decide +kernel
theorem dX12_settle_125 : decode cX12_settle 125 = .ok (.iaload, 1) := by decide +kernel
theorem dX12_settle_126 : decode cX12_settle 126 = .ok (.iastore, 1) := by decide +kernel
theorem dX12_settle_127 : decode cX12_settle 127 = .ok (.aload_n 0, 1) := by decide +kernel
theorem dX12_settle_128 : decode cX12_settle 128 = .ok (.getfield 107, 3) := by decide +kernel
theorem dX12_settle_131 : decode cX12_settle 131 = .ok (.iload_n 2, 1) := by decide +kernel
theorem dX12_settle_132 : decode cX12_settle 132 = .ok (.aload_n 0, 1) := by decide +kernel
theorem dX12_settle_133 : decode cX12_settle 133 = .ok (.getfield 107, 3) := by decide +kernel
theorem dX12_settle_136 : decode cX12_settle 136 = .ok (.iload_n 3, 1) := by decide +kernel
theorem dX12_settle_137 : decode cX12_settle 137 = .ok (.iaload, 1) := by decide +kernel
theorem dX12_settle_138 : decode cX12_settle 138 = .ok (.iastore, 1) := by decide +kernel
theorem dX12_settle_139 : decode cX12_settle 139 = .ok (.aload_n 0, 1) := by decide +kernel
theorem dX12_settle_140 : decode cX12_settle 140 = .ok (.getfield 110, 3) := by decide +kernel
theorem dX12_settle_143 : decode cX12_settle 143 = .ok (.iload_n 2, 1) := by decide +kernel
theorem dX12_settle_144 : decode cX12_settle 144 = .ok (.aload_n 0, 1) := by decide +kernel
theorem dX12_settle_145 : decode cX12_settle 145 = .ok (.getfield 110, 3) := by decide +kernel
theorem dX12_settle_148 : decode cX12_settle 148 = .ok (.iload_n 3, 1) := by decide +kernel
theorem dX12_settle_149 : decode cX12_settle 149 = .ok (.laload, 1) := by decide +kernel
theorem dX12_settle_150 : decode cX12_settle 150 = .ok (.lastore, 1) := by decide +kernel
theorem dX12_settle_151 : decode cX12_settle 151 = .ok (.iinc 2 1, 3) := by decide +kernel
theorem dX12_settle_154 : decode cX12_settle 154 = .ok (.goto (-143), 3) := by decide +kernel
theorem dX12_settle_157 : decode cX12_settle 157 = .ok (.aload_n 0, 1) := by decide +kernel
theorem dX12_settle_158 : decode cX12_settle 158 = .ok (.aload_n 0, 1) := by decide +kernel
theorem dX12_settle_159 : decode cX12_settle 159 = .ok (.getfield 156, 3) := by decide +kernel
theorem dX12_settle_162 : decode cX12_settle 162 = .ok (.putfield 238, 3) := by decide +kernel
theorem dX12_settle_165 : decode cX12_settle 165 = .ok (.aload_n 0, 1) := by decide +kernel
theorem dX12_settle_166 : decode cX12_settle 166 = .ok (.aload_n 0, 1) := by decide +kernel
theorem dX12_settle_167 : decode cX12_settle 167 = .ok (.getfield 159, 3) := by decide +kernel
theorem dX12_settle_170 : decode cX12_settle 170 = .ok (.putfield 241, 3) := by decide +kernel
theorem dX12_settle_173 : decode cX12_settle 173 = .ok (.aload_n 0, 1) := by decide +kernel
theorem dX12_settle_174 : decode cX12_settle 174 = .ok (.aload_n 0, 1) := by decide +kernel
theorem dX12_settle_175 : decode cX12_settle 175 = .ok (.getfield 162, 3) := by decide +kernel
theorem dX12_settle_178 : decode cX12_settle 178 = .ok (.putfield 244, 3) := by decide +kernel
theorem dX12_settle_181 : decode cX12_settle 181 = .ok (.aload_n 0, 1) := by decide +kernel
theorem dX12_settle_182 : decode cX12_settle 182 = .ok (.aload_n 0, 1) := by decide +kernel
theorem dX12_settle_183 : decode cX12_settle 183 = .ok (.getfield 128, 3) := by decide +kernel
theorem dX12_settle_186 : decode cX12_settle 186 = .ok (.putfield 247, 3) := by decide +kernel
theorem dX12_settle_189 : decode cX12_settle 189 = .ok (.aload_n 0, 1) := by decide +kernel
theorem dX12_settle_190 : decode cX12_settle 190 = .ok (.dup, 1) := by decide +kernel
theorem dX12_settle_191 : decode cX12_settle 191 = .ok (.getfield 250, 3) := by decide +kernel
theorem dX12_settle_194 : decode cX12_settle 194 = .ok (.iconst 1, 1) := by decide +kernel
theorem dX12_settle_195 : decode cX12_settle 195 = .ok (.iadd, 1) := by decide +kernel
theorem dX12_settle_196 : decode cX12_settle 196 = .ok (.putfield 250, 3) := by decide +kernel
theorem dX12_settle_199 : decode cX12_settle 199 = .ok (.aload_n 0, 1) := by decide +kernel
theorem dX12_settle_200 : decode cX12_settle 200 = .ok (.iconst 0, 1) := by decide +kernel
theorem dX12_settle_201 : decode cX12_settle 201 = .ok (.putfield 289, 3) := by decide +kernel
theorem dX12_settle_204 : decode cX12_settle 204 = .ok (.iconst 0, 1) := by decide +kernel
theorem dX12_settle_205 : decode cX12_settle 205 = .ok (.istore_n 2, 1) := by decide +kernel
theorem dX12_settle_206 : decode cX12_settle 206 = .ok (.iconst 0, 1) := by decide +kernel
theorem dX12_settle_207 : decode cX12_settle 207 = .ok (.istore_n 3, 1) := by decide +kernel
theorem dX12_settle_208 : decode cX12_settle 208 = .ok (.iload_n 3, 1) := by decide +kernel
theorem dX12_settle_209 : decode cX12_settle 209 = .ok (.aload_n 0, 1) := by decide +kernel
theorem dX12_settle_210 : decode cX12_settle 210 = .ok (.getfield 238, 3) := by decide +kernel
theorem dX12_settle_213 : decode cX12_settle 213 = .ok (.if_icmp .gt 207, 3) := by decide +kernel
theorem dX12_settle_216 : decode cX12_settle 216 = .ok (.iload_n 2, 1) := by decide +kernel
theorem dX12_settle_217 : decode cX12_settle 217 = .ok (.aload_n 0, 1) := by decide +kernel
theorem dX12_settle_218 : decode cX12_settle 218 = .ok (.getfield 159, 3) := by decide +kernel
theorem dX12_settle_221 : decode cX12_settle 221 = .ok (.if_icmp .ge 55, 3) := by decide +kernel
theorem dX12_settle_224 : decode cX12_settle 224 = .ok (.iload_n 3, 1) := by decide +kernel
theorem dX12_settle_225 : decode cX12_settle 225 = .ok (.aload_n 0, 1) := by decide +kernel
theorem dX12_settle_226 : decode cX12_settle 226 = .ok (.getfield 238, 3) := by decide +kernel
theorem dX12_settle_229 : decode cX12_settle 229 = .ok (.if_icmp .eq 18, 3) := by decide +kernel
theorem dX12_settle_232 : decode cX12_settle 232 = .ok (.aload_n 0, 1) := by decide +kernel
theorem dX12_settle_233 : decode cX12_settle 233 = .ok (.getfield 214, 3) := by decide +kernel
theorem dX12_settle_236 : decode cX12_settle 236 = .ok (.iload_n 2, 1) := by decide +kernel
theorem dX12_settle_237 : decode cX12_settle 237 = .ok (.iaload, 1) := by decide +kernel
theorem dX12_settle_238 : decode cX12_settle 238 = .ok (.aload_n 0, 1) := by decide +kernel
theorem dX12_settle_239 : decode cX12_settle 239 = .ok (.getfield 193, 3) := by decide +kernel
theorem dX12_settle_242 : decode cX12_settle 242 = .ok (.iload_n 3, 1) := by decide +kernel
theorem dX12_settle_243 : decode cX12_settle 243 = .ok (.iaload, 1) := by decide +kernel
theorem dX12_settle_244 : decode cX12_settle 244 = .ok (.if_icmp .ge 32, 3) := by decide +kernel
theorem dX12_settle_247 : decode cX12_settle 247 = .ok (.aload_n 0, 1) := by decide +kernel
theorem dX12_settle_248 : decode cX12_settle 248 = .ok (.getfield 286, 3) := by decide +kernel
theorem dX12_settle_251 : decode cX12_settle 251 = .ok (.aload_n 0, 1) := by decide +kernel
theorem dX12_settle_252 : decode cX12_settle 252 = .ok (.getfield 289, 3) := by decide +kernel
theorem dX12_settle_255 : decode cX12_settle 255 = .ok (.bipush 100, 2) := by decide +kernel
theorem dX12_settle_257 : decode cX12_settle 257 = .ok (.iload_n 2, 1) := by decide +kernel
theorem dX12_settle_258 : decode cX12_settle 258 = .ok (.iadd, 1) := by decide +kernel
theorem dX12_settle_259 : decode cX12_settle 259 = .ok (.iastore, 1) := by decide +kernel
theorem dX12_settle_260 : decode cX12_settle 260 = .ok (.aload_n 0, 1) := by decide +kernel
theorem dX12_settle_261 : decode cX12_settle 261 = .ok (.dup, 1) := by decide +kernel
theorem dX12_settle_262 : decode cX12_settle 262 = .ok (.getfield 289, 3) := by decide +kernel
theorem dX12_settle_265 : decode cX12_settle 265 = .ok (.iconst 1, 1) := by decide +kernel
theorem dX12_settle_266 : decode cX12_settle 266 = .ok (.iadd, 1) := by decide +kernel
theorem dX12_settle_267 : decode cX12_settle 267 = .ok (.putfield 289, 3) := by decide +kernel
theorem dX12_settle_270 : decode cX12_settle 270 = .ok (.iinc 2 1, 3) := by decide +kernel
theorem dX12_settle_273 : decode cX12_settle 273 = .ok (.goto (-57), 3) := by decide +kernel
theorem dX12_settle_276 : decode cX12_settle 276 = .ok (.iload_n 3, 1) := by decide +kernel
theorem dX12_settle_277 : decode cX12_settle 277 = .ok (.aload_n 0, 1) := by decide +kernel
theorem dX12_settle_278 : decode cX12_settle 278 = .ok (.getfield 238, 3) := by decide +kernel
theorem dX12_settle_281 : decode cX12_settle 281 = .ok (.if_icmp .ne 6, 3) := by decide +kernel
theorem dX12_settle_284 : decode cX12_settle 284 = .ok (.goto 130, 3) := by decide +kernel
theorem dX12_settle_287 : decode cX12_settle 287 = .ok (.aload_n 0, 1) := by decide +kernel
theorem dX12_settle_288 : decode cX12_settle 288 = .ok (.getfield 286, 3) := by decide +kernel
theorem dX12_settle_291 : decode cX12_settle 291 = .ok (.aload_n 0, 1) := by decide +kernel
theorem dX12_settle_292 : decode cX12_settle 292 = .ok (.getfield 289, 3) := by decide +kernel
theorem dX12_settle_295 : decode cX12_settle 295 = .ok (.iload_n 3, 1) := by decide +kernel
theorem dX12_settle_296 : decode cX12_settle 296 = .ok (.iastore, 1) := by decide +kernel
theorem dX12_settle_297 : decode cX12_settle 297 = .ok (.aload_n 0, 1) := by decide +kernel
theorem dX12_settle_298 : decode cX12_settle 298 = .ok (.dup, 1) := by decide +kernel
theorem dX12_settle_299 : decode cX12_settle 299 = .ok (.getfield 289, 3) := by decide +kernel
theorem dX12_settle_302 : decode cX12_settle 302 = .ok (.iconst 1, 1) := by decide +kernel
theorem dX12_settle_303 : decode cX12_settle 303 = .ok (.iadd, 1) := by decide +kernel
theorem dX12_settle_304 : decode cX12_settle 304 = .ok (.putfield 289, 3) := by decide +kernel
theorem dX12_settle_307 : decode cX12_settle 307 = .ok (.aload_n 0, 1) := by decide +kernel
theorem dX12_settle_308 : decode cX12_settle 308 = .ok (.iload_n 3, 1) := by decide +kernel
theorem dX12_settle_309 : decode cX12_settle 309 = .ok (.aload_n 0, 1) := by decide +kernel
theorem dX12_settle_310 : decode cX12_settle 310 = .ok (.getfield 168, 3) := by decide +kernel
theorem dX12_settle_313 : decode cX12_settle 313 = .ok (.iload_n 3, 1) := by decide +kernel
theorem dX12_settle_314 : decode cX12_settle 314 = .ok (.iaload, 1) := by decide +kernel
theorem dX12_settle_315 : decode cX12_settle 315 = .ok (.invokevirtual 643, 3) := by decide +kernel
theorem dX12_settle_318 : decode cX12_settle 318 = .ok (.aload_n 0, 1) := by decide +kernel
theorem dX12_settle_319 : decode cX12_settle 319 = .ok (.getfield 259, 3) := by decide +kernel
theorem dX12_settle_322 : decode cX12_settle 322 = .ok (.iload_n 3, 1) := by decide +kernel
theorem dX12_settle_323 : decode cX12_settle 323 = .ok (.aload_n 0, 1) := by decide +kernel
theorem dX12_settle_324 : decode cX12_settle 324 = .ok (.getfield 171, 3) := by decide +kernel
theorem dX12_settle_327 : decode cX12_settle 327 = .ok (.iload_n 3, 1) := by decide +kernel
theorem dX12_settle_328 : decode cX12_settle 328 = .ok (.iaload, 1) := by decide +kernel
theorem dX12_settle_329 : decode cX12_settle 329 = .ok (.iastore, 1) := by decide +kernel
theorem dX12_settle_330 : decode cX12_settle 330 = .ok (.aload_n 0, 1) := by decide +kernel
theorem dX12_settle_331 : decode cX12_settle 331 = .ok (.getfield 262, 3) := by decide +kernel
theorem dX12_settle_334 : decode cX12_settle 334 = .ok (.iload_n 3, 1) := by decide +kernel
theorem dX12_settle_335 : decode cX12_settle 335 = .ok (.aload_n 0, 1) := by decide +kernel
theorem dX12_settle_336 : decode cX12_settle 336 = .ok (.getfield 174, 3) := by decide +kernel
theorem dX12_settle_339 : decode cX12_settle 339 = .ok (.iload_n 3, 1) := by decide +kernel
theorem dX12_settle_340 : decode cX12_settle 340 = .ok (.baload, 1) := by decide +kernel
theorem dX12_settle_341 : decode cX12_settle 341 = .ok (.bastore, 1) := by decide +kernel
theorem dX12_settle_342 : decode cX12_settle 342 = .ok (.aload_n 0, 1) := by decide +kernel
theorem dX12_settle_343 : decode cX12_settle 343 = .ok (.getfield 265, 3) := by decide +kernel
theorem dX12_settle_346 : decode cX12_settle 346 = .ok (.iload_n 3, 1) := by decide +kernel
theorem dX12_settle_347 : decode cX12_settle 347 = .ok (.aload_n 0, 1) := by decide +kernel
theorem dX12_settle_348 : decode cX12_settle 348 = .ok (.getfield 178, 3) := by decide +kernel
theorem dX12_settle_351 : decode cX12_settle 351 = .ok (.iload_n 3, 1) := by decide +kernel
theorem dX12_settle_352 : decode cX12_settle 352 = .ok (.iaload, 1) := by decide +kernel
theorem dX12_settle_353 : decode cX12_settle 353 = .ok (.sipush 2000, 3) := by decide +kernel
theorem dX12_settle_356 : decode cX12_settle 356 = .ok (.isub, 1) := by decide +kernel
theorem dX12_settle_357 : decode cX12_settle 357 = .ok (.iastore, 1) := by decide +kernel
theorem dX12_settle_358 : decode cX12_settle 358 = .ok (.aload_n 0, 1) := by decide +kernel
theorem dX12_settle_359 : decode cX12_settle 359 = .ok (.getfield 268, 3) := by decide +kernel
theorem dX12_settle_362 : decode cX12_settle 362 = .ok (.iload_n 3, 1) := by decide +kernel
theorem dX12_settle_363 : decode cX12_settle 363 = .ok (.aload_n 0, 1) := by decide +kernel
theorem dX12_settle_364 : decode cX12_settle 364 = .ok (.getfield 181, 3) := by decide +kernel
theorem dX12_settle_367 : decode cX12_settle 367 = .ok (.iload_n 3, 1) := by decide +kernel
theorem dX12_settle_368 : decode cX12_settle 368 = .ok (.iaload, 1) := by decide +kernel
theorem dX12_settle_369 : decode cX12_settle 369 = .ok (.sipush 2000, 3) := by decide +kernel
theorem dX12_settle_372 : decode cX12_settle 372 = .ok (.isub, 1) := by decide +kernel
theorem dX12_settle_373 : decode cX12_settle 373 = .ok (.iastore, 1) := by decide +kernel
theorem dX12_settle_374 : decode cX12_settle 374 = .ok (.aload_n 0, 1) := by decide +kernel
theorem dX12_settle_375 : decode cX12_settle 375 = .ok (.getfield 271, 3) := by decide +kernel
theorem dX12_settle_378 : decode cX12_settle 378 = .ok (.iload_n 3, 1) := by decide +kernel
theorem dX12_settle_379 : decode cX12_settle 379 = .ok (.aload_n 0, 1) := by decide +kernel
theorem dX12_settle_380 : decode cX12_settle 380 = .ok (.getfield 184, 3) := by decide +kernel
theorem dX12_settle_383 : decode cX12_settle 383 = .ok (.iload_n 3, 1) := by decide +kernel
theorem dX12_settle_384 : decode cX12_settle 384 = .ok (.iaload, 1) := by decide +kernel
theorem dX12_settle_385 : decode cX12_settle 385 = .ok (.sipush 2000, 3) := by decide +kernel
theorem dX12_settle_388 : decode cX12_settle 388 = .ok (.isub, 1) := by decide +kernel
theorem dX12_settle_389 : decode cX12_settle 389 = .ok (.iastore, 1) := by decide +kernel
theorem dX12_settle_390 : decode cX12_settle 390 = .ok (.aload_n 0, 1) := by decide +kernel
theorem dX12_settle_391 : decode cX12_settle 391 = .ok (.getfield 274, 3) := by decide +kernel
theorem dX12_settle_394 : decode cX12_settle 394 = .ok (.iload_n 3, 1) := by decide +kernel
theorem dX12_settle_395 : decode cX12_settle 395 = .ok (.aload_n 0, 1) := by decide +kernel
theorem dX12_settle_396 : decode cX12_settle 396 = .ok (.getfield 196, 3) := by decide +kernel
theorem dX12_settle_399 : decode cX12_settle 399 = .ok (.iload_n 3, 1) := by decide +kernel
theorem dX12_settle_400 : decode cX12_settle 400 = .ok (.iaload, 1) := by decide +kernel
theorem dX12_settle_401 : decode cX12_settle 401 = .ok (.iastore, 1) := by decide +kernel
theorem dX12_settle_402 : decode cX12_settle 402 = .ok (.aload_n 0, 1) := by decide +kernel
theorem dX12_settle_403 : decode cX12_settle 403 = .ok (.getfield 277, 3) := by decide +kernel
theorem dX12_settle_406 : decode cX12_settle 406 = .ok (.iload_n 3, 1) := by decide +kernel
theorem dX12_settle_407 : decode cX12_settle 407 = .ok (.aload_n 0, 1) := by decide +kernel
theorem dX12_settle_408 : decode cX12_settle 408 = .ok (.getfield 199, 3) := by decide +kernel
theorem dX12_settle_411 : decode cX12_settle 411 = .ok (.iload_n 3, 1) := by decide +kernel
theorem dX12_settle_412 : decode cX12_settle 412 = .ok (.iaload, 1) := by decide +kernel
theorem dX12_settle_413 : decode cX12_settle 413 = .ok (.iastore, 1) := by decide +kernel
theorem dX12_settle_414 : decode cX12_settle 414 = .ok (.iinc 3 1, 3) := by decide +kernel
theorem dX12_settle_417 : decode cX12_settle 417 = .ok (.goto (-209), 3) := by decide +kernel
theorem dX12_settle_420 : decode cX12_settle 420 = .ok (.iconst 0, 1) := by decide +kernel
theorem dX12_settle_421 : decode cX12_settle 421 = .ok (.istore_n 3, 1) := by decide +kernel
theorem dX12_settle_422 : decode cX12_settle 422 = .ok (.iload_n 3, 1) := by decide +kernel
theorem dX12_settle_423 : decode cX12_settle 423 = .ok (.aload_n 0, 1) := by decide +kernel
theorem dX12_settle_424 : decode cX12_settle 424 = .ok (.getfield 159, 3) := by decide +kernel
theorem dX12_settle_427 : decode cX12_settle 427 = .ok (.if_icmp .ge 62, 3) := by decide +kernel
theorem dX12_settle_430 : decode cX12_settle 430 = .ok (.aload_n 0, 1) := by decide +kernel
theorem dX12_settle_431 : decode cX12_settle 431 = .ok (.bipush 40, 2) := by decide +kernel
theorem dX12_settle_433 : decode cX12_settle 433 = .ok (.iload_n 3, 1) := by decide +kernel
theorem dX12_settle_434 : decode cX12_settle 434 = .ok (.iadd, 1) := by decide +kernel
theorem dX12_settle_435 : decode cX12_settle 435 = .ok (.aload_n 0, 1) := by decide +kernel
theorem dX12_settle_436 : decode cX12_settle 436 = .ok (.getfield 202, 3) := by decide +kernel
theorem dX12_settle_439 : decode cX12_settle 439 = .ok (.iload_n 3, 1) := by decide +kernel
theorem dX12_settle_440 : decode cX12_settle 440 = .ok (.iaload, 1) := by decide +kernel
theorem dX12_settle_441 : decode cX12_settle 441 = .ok (.invokevirtual 643, 3) := by decide +kernel
theorem dX12_settle_444 : decode cX12_settle 444 = .ok (.aload_n 0, 1) := by decide +kernel
theorem dX12_settle_445 : decode cX12_settle 445 = .ok (.getfield 280, 3) := by decide +kernel
theorem dX12_settle_448 : decode cX12_settle 448 = .ok (.iload_n 3, 1) := by decide +kernel
theorem dX12_settle_449 : decode cX12_settle 449 = .ok (.aload_n 0, 1) := by decide +kernel
theorem dX12_settle_450 : decode cX12_settle 450 = .ok (.getfield 205, 3) := by decide +kernel
theorem dX12_settle_453 : decode cX12_settle 453 = .ok (.iload_n 3, 1) := by decide +kernel
theorem dX12_settle_454 : decode cX12_settle 454 = .ok (.iaload, 1) := by decide +kernel
theorem dX12_settle_455 : decode cX12_settle 455 = .ok (.sipush 2000, 3) := by decide +kernel
theorem dX12_settle_458 : decode cX12_settle 458 = .ok (.isub, 1) := by decide +kernel
theorem dX12_settle_459 : decode cX12_settle 459 = .ok (.iastore, 1) := by decide +kernel
theorem dX12_settle_460 : decode cX12_settle 460 = .ok (.aload_n 0, 1) := by decide +kernel
theorem dX12_settle_461 : decode cX12_settle 461 = .ok (.getfield 283, 3) := by decide +kernel
theorem dX12_settle_464 : decode cX12_settle 464 = .ok (.iload_n 3, 1) := by decide +kernel
theorem dX12_settle_465 : decode cX12_settle 465 = .ok (.aload_n 0, 1) := by decide +kernel
theorem dX12_settle_466 : decode cX12_settle 466 = .ok (.getfield 208, 3) := by decide +kernel
theorem dX12_settle_469 : decode cX12_settle 469 = .ok (.iload_n 3, 1) := by decide +kernel
theorem dX12_settle_470 : decode cX12_settle 470 = .ok (.iaload, 1) := by decide +kernel
theorem dX12_settle_471 : decode cX12_settle 471 = .ok (.sipush 2000, 3) := by decide +kernel
theorem dX12_settle_474 : decode cX12_settle 474 = .ok (.isub, 1) := by decide +kernel
theorem dX12_settle_475 : decode cX12_settle 475 = .ok (.iastore, 1) := by decide +kernel
theorem dX12_settle_476 : decode cX12_settle 476 = .ok (.aload_n 0, 1) := by decide +kernel
theorem dX12_settle_477 : decode cX12_settle 477 = .ok (.getfield 316, 3) := by decide +kernel
theorem dX12_settle_480 : decode cX12_settle 480 = .ok (.iload_n 3, 1) := by decide +kernel
theorem dX12_settle_481 : decode cX12_settle 481 = .ok (.iconst 0, 1) := by decide +kernel
theorem dX12_settle_482 : decode cX12_settle 482 = .ok (.iastore, 1) := by decide +kernel
theorem dX12_settle_483 : decode cX12_settle 483 = .ok (.iinc 3 1, 3) := by decide +kernel
theorem dX12_settle_486 : decode cX12_settle 486 = .ok (.goto (-64), 3) := by decide +kernel
theorem dX12_settle_489 : decode cX12_settle 489 = .ok (.iconst 0, 1) := by decide +kernel
theorem dX12_settle_490 : decode cX12_settle 490 = .ok (.istore_n 3, 1) := by decide +kernel
theorem dX12_settle_491 : decode cX12_settle 491 = .ok (.iload_n 3, 1) := by decide +kernel
theorem dX12_settle_492 : decode cX12_settle 492 = .ok (.aload_n 0, 1) := by decide +kernel
theorem dX12_settle_493 : decode cX12_settle 493 = .ok (.getfield 162, 3) := by decide +kernel
theorem dX12_settle_496 : decode cX12_settle 496 = .ok (.if_icmp .ge 81, 3) := by decide +kernel
theorem dX12_settle_499 : decode cX12_settle 499 = .ok (.aload_n 0, 1) := by decide +kernel
theorem dX12_settle_500 : decode cX12_settle 500 = .ok (.bipush 52, 2) := by decide +kernel
theorem dX12_settle_502 : decode cX12_settle 502 = .ok (.iload_n 3, 1) := by decide +kernel
theorem dX12_settle_503 : decode cX12_settle 503 = .ok (.iadd, 1) := by decide +kernel
theorem dX12_settle_504 : decode cX12_settle 504 = .ok (.aload_n 0, 1) := by decide +kernel
theorem dX12_settle_505 : decode cX12_settle 505 = .ok (.getfield 217, 3) := by decide +kernel
theorem dX12_settle_508 : decode cX12_settle 508 = .ok (.iload_n 3, 1) := by decide +kernel
theorem dX12_settle_509 : decode cX12_settle 509 = .ok (.iaload, 1) := by decide +kernel
theorem dX12_settle_510 : decode cX12_settle 510 = .ok (.invokevirtual 643, 3) := by decide +kernel
theorem dX12_settle_513 : decode cX12_settle 513 = .ok (.aload_n 0, 1) := by decide +kernel
theorem dX12_settle_514 : decode cX12_settle 514 = .ok (.getfield 292, 3) := by decide +kernel
theorem dX12_settle_517 : decode cX12_settle 517 = .ok (.iload_n 3, 1) := by decide +kernel
theorem dX12_settle_518 : decode cX12_settle 518 = .ok (.aload_n 0, 1) := by decide +kernel
theorem dX12_settle_519 : decode cX12_settle 519 = .ok (.getfield 223, 3) := by decide +kernel
theorem dX12_settle_522 : decode cX12_settle 522 = .ok (.iload_n 3, 1) := by decide +kernel
theorem dX12_settle_523 : decode cX12_settle 523 = .ok (.iaload, 1) := by decide +kernel
theorem dX12_settle_524 : decode cX12_settle 524 = .ok (.iastore, 1) := by decide +kernel
theorem dX12_settle_525 : decode cX12_settle 525 = .ok (.iconst 0, 1) := by decide +kernel
theorem dX12_settle_526 : decode cX12_settle 526 = .ok (.istore 4, 2) := by decide +kernel
theorem dX12_settle_528 : decode cX12_settle 528 = .ok (.iload 4, 2) := by decide +kernel
theorem dX12_settle_530 : decode cX12_settle 530 = .ok (.aload_n 0, 1) := by decide +kernel
theorem dX12_settle_531 : decode cX12_settle 531 = .ok (.getfield 223, 3) := by decide +kernel
theorem dX12_settle_534 : decode cX12_settle 534 = .ok (.iload_n 3, 1) := by decide +kernel
theorem dX12_settle_535 : decode cX12_settle 535 = .ok (.iaload, 1) := by decide +kernel
theorem dX12_settle_536 : decode cX12_settle 536 = .ok (.if_icmp .ge 35, 3) := by decide +kernel
theorem dX12_settle_539 : decode cX12_settle 539 = .ok (.aload_n 0, 1) := by decide +kernel
theorem dX12_settle_540 : decode cX12_settle 540 = .ok (.getfield 295, 3) := by decide +kernel
theorem dX12_settle_543 : decode cX12_settle 543 = .ok (.bipush 24, 2) := by decide +kernel
theorem dX12_settle_545 : decode cX12_settle 545 = .ok (.iload_n 3, 1) := by decide +kernel
theorem dX12_settle_546 : decode cX12_settle 546 = .ok (.imul, 1) := by decide +kernel
theorem dX12_settle_547 : decode cX12_settle 547 = .ok (.iload 4, 2) := by decide +kernel
theorem dX12_settle_549 : decode cX12_settle 549 = .ok (.iadd, 1) := by decide +kernel
theorem dX12_settle_550 : decode cX12_settle 550 = .ok (.aload_n 0, 1) := by decide +kernel
theorem dX12_settle_551 : decode cX12_settle 551 = .ok (.getfield 226, 3) := by decide +kernel
theorem dX12_settle_554 : decode cX12_settle 554 = .ok (.aload_n 0, 1) := by decide +kernel
theorem dX12_settle_555 : decode cX12_settle 555 = .ok (.getfield 220, 3) := by decide +kernel
theorem dX12_settle_558 : decode cX12_settle 558 = .ok (.iload_n 3, 1) := by decide +kernel
theorem dX12_settle_559 : decode cX12_settle 559 = .ok (.iaload, 1) := by decide +kernel
theorem dX12_settle_560 : decode cX12_settle 560 = .ok (.iload 4, 2) := by decide +kernel
theorem dX12_settle_562 : decode cX12_settle 562 = .ok (.iadd, 1) := by decide +kernel
theorem dX12_settle_563 : decode cX12_settle 563 = .ok (.laload, 1) := by decide +kernel
theorem dX12_settle_564 : decode cX12_settle 564 = .ok (.lastore, 1) := by decide +kernel
theorem dX12_settle_565 : decode cX12_settle 565 = .ok (.iinc 4 1, 3) := by decide +kernel
theorem dX12_settle_568 : decode cX12_settle 568 = .ok (.goto (-40), 3) := by decide +kernel
theorem dX12_settle_571 : decode cX12_settle 571 = .ok (.iinc 3 1, 3) := by decide +kernel
theorem dX12_settle_574 : decode cX12_settle 574 = .ok (.goto (-83), 3) := by decide +kernel
theorem dX12_settle_577 : decode cX12_settle 577 = .ok (.aload_n 0, 1) := by decide +kernel
theorem dX12_settle_578 : decode cX12_settle 578 = .ok (.lconst 0, 1) := by decide +kernel
theorem dX12_settle_579 : decode cX12_settle 579 = .ok (.putfield 319, 3) := by decide +kernel
theorem dX12_settle_582 : decode cX12_settle 582 = .ok (.aload_n 0, 1) := by decide +kernel
theorem dX12_settle_583 : decode cX12_settle 583 = .ok (.iconst 0, 1) := by decide +kernel
theorem dX12_settle_584 : decode cX12_settle 584 = .ok (.putfield 323, 3) := by decide +kernel
theorem dX12_settle_587 : decode cX12_settle 587 = .ok (.iconst 0, 1) := by decide +kernel
theorem dX12_settle_588 : decode cX12_settle 588 = .ok (.istore_n 3, 1) := by decide +kernel
theorem dX12_settle_589 : decode cX12_settle 589 = .ok (.iload_n 3, 1) := by decide +kernel
theorem dX12_settle_590 : decode cX12_settle 590 = .ok (.bipush 52, 2) := by decide +kernel
theorem dX12_settle_592 : decode cX12_settle 592 = .ok (.if_icmp .ge 30, 3) := by decide +kernel
theorem dX12_settle_595 : decode cX12_settle 595 = .ok (.aload_n 0, 1) := by decide +kernel
theorem dX12_settle_596 : decode cX12_settle 596 = .ok (.getfield 307, 3) := by decide +kernel
theorem dX12_settle_599 : decode cX12_settle 599 = .ok (.iload_n 3, 1) := by decide +kernel
theorem dX12_settle_600 : decode cX12_settle 600 = .ok (.iconst 0, 1) := by decide +kernel
theorem dX12_settle_601 : decode cX12_settle 601 = .ok (.iastore, 1) := by decide +kernel
theorem dX12_settle_602 : decode cX12_settle 602 = .ok (.aload_n 0, 1) := by decide +kernel
theorem dX12_settle_603 : decode cX12_settle 603 = .ok (.getfield 310, 3) := by decide +kernel
theorem dX12_settle_606 : decode cX12_settle 606 = .ok (.iload_n 3, 1) := by decide +kernel
theorem dX12_settle_607 : decode cX12_settle 607 = .ok (.iconst 0, 1) := by decide +kernel
theorem dX12_settle_608 : decode cX12_settle 608 = .ok (.iastore, 1) := by decide +kernel
theorem dX12_settle_609 : decode cX12_settle 609 = .ok (.aload_n 0, 1) := by decide +kernel
theorem dX12_settle_610 : decode cX12_settle 610 = .ok (.getfield 313, 3) := by decide +kernel
theorem dX12_settle_613 : decode cX12_settle 613 = .ok (.iload_n 3, 1) := by decide +kernel
theorem dX12_settle_614 : decode cX12_settle 614 = .ok (.iconst (-1), 1) := by decide +kernel
theorem dX12_settle_615 : decode cX12_settle 615 = .ok (.iastore, 1) := by decide +kernel
theorem dX12_settle_616 : decode cX12_settle 616 = .ok (.iinc 3 1, 3) := by decide +kernel
theorem dX12_settle_619 : decode cX12_settle 619 = .ok (.goto (-30), 3) := by decide +kernel
theorem dX12_settle_622 : decode cX12_settle 622 = .ok (.iconst 0, 1) := by decide +kernel
theorem dX12_settle_623 : decode cX12_settle 623 = .ok (.istore_n 3, 1) := by decide +kernel
theorem dX12_settle_624 : decode cX12_settle 624 = .ok (.iload_n 3, 1) := by decide +kernel
theorem dX12_settle_625 : decode cX12_settle 625 = .ok (.aload_n 0, 1) := by decide +kernel
theorem dX12_settle_626 : decode cX12_settle 626 = .ok (.getfield 238, 3) := by decide +kernel
theorem dX12_settle_629 : decode cX12_settle 629 = .ok (.if_icmp .ge 81, 3) := by decide +kernel
theorem dX12_settle_632 : decode cX12_settle 632 = .ok (.aload_n 0, 1) := by decide +kernel
theorem dX12_settle_633 : decode cX12_settle 633 = .ok (.getfield 298, 3) := by decide +kernel
theorem dX12_settle_636 : decode cX12_settle 636 = .ok (.iload_n 3, 1) := by decide +kernel
theorem dX12_settle_637 : decode cX12_settle 637 = .ok (.lconst 0, 1) := by decide +kernel
theorem dX12_settle_638 : decode cX12_settle 638 = .ok (.lastore, 1) := by decide +kernel
theorem dX12_settle_639 : decode cX12_settle 639 = .ok (.aload_n 0, 1) := by decide +kernel
theorem dX12_settle_640 : decode cX12_settle 640 = .ok (.aload_n 0, 1) := by decide +kernel
theorem dX12_settle_641 : decode cX12_settle 641 = .ok (.getfield 265, 3) := by decide +kernel
theorem dX12_settle_644 : decode cX12_settle 644 = .ok (.iload_n 3, 1) := by decide +kernel
theorem dX12_settle_645 : decode cX12_settle 645 = .ok (.iaload, 1) := by decide +kernel
theorem dX12_settle_646 : decode cX12_settle 646 = .ok (.aload_n 0, 1) := by decide +kernel
theorem dX12_settle_647 : decode cX12_settle 647 = .ok (.getfield 268, 3) := by decide +kernel
theorem dX12_settle_650 : decode cX12_settle 650 = .ok (.iload_n 3, 1) := by decide +kernel
theorem dX12_settle_651 : decode cX12_settle 651 = .ok (.iaload, 1) := by decide +kernel
theorem dX12_settle_652 : decode cX12_settle 652 = .ok (.invokevirtual 646, 3) := by decide +kernel
theorem dX12_settle_655 : decode cX12_settle 655 = .ok (.ifCond .eq 32, 3) := by decide +kernel
theorem dX12_settle_658 : decode cX12_settle 658 = .ok (.aload_n 0, 1) := by decide +kernel
theorem dX12_settle_659 : decode cX12_settle 659 = .ok (.getfield 298, 3) := by decide +kernel
theorem dX12_settle_662 : decode cX12_settle 662 = .ok (.iload_n 3, 1) := by decide +kernel
theorem dX12_settle_663 : decode cX12_settle 663 = .ok (.aload_n 0, 1) := by decide +kernel
theorem dX12_settle_664 : decode cX12_settle 664 = .ok (.aload_n 0, 1) := by decide +kernel
theorem dX12_settle_665 : decode cX12_settle 665 = .ok (.getfield 343, 3) := by decide +kernel
theorem dX12_settle_668 : decode cX12_settle 668 = .ok (.aload_n 0, 1) := by decide +kernel
theorem dX12_settle_669 : decode cX12_settle 669 = .ok (.getfield 274, 3) := by decide +kernel
theorem dX12_settle_672 : decode cX12_settle 672 = .ok (.iload_n 3, 1) := by decide +kernel
theorem dX12_settle_673 : decode cX12_settle 673 = .ok (.iaload, 1) := by decide +kernel
theorem dX12_settle_674 : decode cX12_settle 674 = .ok (.aload_n 0, 1) := by decide +kernel
theorem dX12_settle_675 : decode cX12_settle 675 = .ok (.getfield 259, 3) := by decide +kernel
theorem dX12_settle_678 : decode cX12_settle 678 = .ok (.iload_n 3, 1) := by decide +kernel
theorem dX12_settle_679 : decode cX12_settle 679 = .ok (.iaload, 1) := by decide +kernel
theorem dX12_settle_680 : decode cX12_settle 680 = .ok (.invokevirtual 488, 3) := by decide +kernel
theorem dX12_settle_683 : decode cX12_settle 683 = .ok (.lastore, 1) := by decide +kernel
theorem dX12_settle_684 : decode cX12_settle 684 = .ok (.goto 8, 3) := by decide +kernel
theorem dX12_settle_687 : decode cX12_settle 687 = .ok (.aload_n 0, 1) := by decide +kernel
theorem dX12_settle_688 : decode cX12_settle 688 = .ok (.iload_n 3, 1) := by decide +kernel
theorem dX12_settle_689 : decode cX12_settle 689 = .ok (.invokevirtual 649, 3) := by decide +kernel
theorem dX12_settle_692 : decode cX12_settle 692 = .ok (.aload_n 0, 1) := by decide +kernel
theorem dX12_settle_693 : decode cX12_settle 693 = .ok (.getfield 301, 3) := by decide +kernel
theorem dX12_settle_696 : decode cX12_settle 696 = .ok (.iload_n 3, 1) := by decide +kernel
theorem dX12_settle_697 : decode cX12_settle 697 = .ok (.aload_n 0, 1) := by decide +kernel
theorem dX12_settle_698 : decode cX12_settle 698 = .ok (.getfield 298, 3) := by decide +kernel
theorem dX12_settle_701 : decode cX12_settle 701 = .ok (.iload_n 3, 1) := by decide +kernel
theorem dX12_settle_702 : decode cX12_settle 702 = .ok (.laload, 1) := by decide +kernel
theorem dX12_settle_703 : decode cX12_settle 703 = .ok (.lastore, 1) := by decide +kernel
theorem dX12_settle_704 : decode cX12_settle 704 = .ok (.iinc 3 1, 3) := by decide +kernel
theorem dX12_settle_707 : decode cX12_settle 707 = .ok (.goto (-83), 3) := by decide +kernel
theorem dX12_settle_710 : decode cX12_settle 710 = .ok (.return_, 1) := by decide +kernel
abbrev R_X12_settle : Room := ({ frames := 9, cells := 0, slots := 0, locals := 251 } : Room)
def b_X12_settle_692 (n : Nat) (rec : (Gs → Int32 → Int32 → Option (Gs)) × (Gs → Int32 → Int32 → Option (Gs)) × (Gs → Int32 → Option (Gs)) × (Gs → Int32 → Option (Gs)) × (Gs → Int32 → Option (Gs)) × (Gs → Int32 → Option (Gs)) × (Gs → Int32 → Int32 → Option (Gs)) × (Gs → Int32 → Int32 → Option (Gs))) (gT : Gs) (v3 : Int32) : Option (Gs) :=
  grd (inB v3 40) (grd (inB v3 40) (rec.2.2.2.2.2.1 (sLA gT 81 (vp_updL (gLA gT 81) v3.toNatClampNeg (gLA gT 80 v3.toNatClampNeg))) (v3 + (1 : Int32))))
def h_X12_settle_624 (n : Nat) (rec : (Gs → Int32 → Int32 → Option (Gs)) × (Gs → Int32 → Int32 → Option (Gs)) × (Gs → Int32 → Option (Gs)) × (Gs → Int32 → Option (Gs)) × (Gs → Int32 → Option (Gs)) × (Gs → Int32 → Option (Gs)) × (Gs → Int32 → Int32 → Option (Gs)) × (Gs → Int32 → Int32 → Option (Gs))) (gT : Gs) (v3 : Int32) : Option (Gs) :=
  if (gI gT 60) ≤ v3 then (some gT) else (grd (inB v3 40) (grd (inB v3 40) (grd (inB v3 40) (bnd (f_X12_works n (sLA gT 80 (vp_updL (gLA gT 80) v3.toNatClampNeg (0 : Int64))) (gIA gT 69 v3.toNatClampNeg) (gIA gT 70 v3.toNatClampNeg)) (fun q_4 => if q_4.1 = 0 then (bnd (f_X12_jammed q_4.2 v3) (fun q_6 => b_X12_settle_692 n rec q_6 v3)) else (grd (inB v3 40) (grd (inB v3 40) (bnd (f_X12_become n q_4.2 (gL q_4.2 94) (gIA q_4.2 72 v3.toNatClampNeg) (gIA q_4.2 67 v3.toNatClampNeg)) (fun q_12 => grd (inB v3 40) (b_X12_settle_692 n rec (sLA q_12.2 80 (vp_updL (gLA q_12.2 80) v3.toNatClampNeg q_12.1)) v3))))))))))
def h_X12_settle_589 (n : Nat) (rec : (Gs → Int32 → Int32 → Option (Gs)) × (Gs → Int32 → Int32 → Option (Gs)) × (Gs → Int32 → Option (Gs)) × (Gs → Int32 → Option (Gs)) × (Gs → Int32 → Option (Gs)) × (Gs → Int32 → Option (Gs)) × (Gs → Int32 → Int32 → Option (Gs)) × (Gs → Int32 → Int32 → Option (Gs))) (gT : Gs) (v3 : Int32) : Option (Gs) :=
  if (52 : Int32) ≤ v3 then (rec.2.2.2.2.2.1 gT (0 : Int32)) else (grd (inB v3 52) (grd (inB v3 52) (grd (inB v3 52) (rec.2.2.2.2.1 (sIA (sIA (sIA gT 83 (upd (gIA gT 83) v3.toNatClampNeg (0 : Int32))) 84 (upd (gIA gT 84) v3.toNatClampNeg (0 : Int32))) 85 (upd (gIA gT 85) v3.toNatClampNeg (-1 : Int32))) (v3 + (1 : Int32))))))
def h_X12_settle_528 (n : Nat) (rec : (Gs → Int32 → Int32 → Option (Gs)) × (Gs → Int32 → Int32 → Option (Gs)) × (Gs → Int32 → Option (Gs)) × (Gs → Int32 → Option (Gs)) × (Gs → Int32 → Option (Gs)) × (Gs → Int32 → Option (Gs)) × (Gs → Int32 → Int32 → Option (Gs)) × (Gs → Int32 → Int32 → Option (Gs))) (gT : Gs) (v3 : Int32) (v4 : Int32) : Option (Gs) :=
  grd (inB v3 400) (if (gIA gT 55 v3.toNatClampNeg) ≤ v4 then (rec.2.2.2.1 gT (v3 + (1 : Int32))) else (grd (inB v3 400) (grd (inB ((gIA gT 54 v3.toNatClampNeg) + v4) 1600) (grd (inB (((24 : Int32) * v3) + v4) 192) (rec.2.2.2.2.2.2.1 (sLA gT 79 (vp_updL (gLA gT 79) (((24 : Int32) * v3) + v4).toNatClampNeg (gLA gT 56 ((gIA gT 54 v3.toNatClampNeg) + v4).toNatClampNeg))) v3 (v4 + (1 : Int32)))))))
def h_X12_settle_491 (n : Nat) (rec : (Gs → Int32 → Int32 → Option (Gs)) × (Gs → Int32 → Int32 → Option (Gs)) × (Gs → Int32 → Option (Gs)) × (Gs → Int32 → Option (Gs)) × (Gs → Int32 → Option (Gs)) × (Gs → Int32 → Option (Gs)) × (Gs → Int32 → Int32 → Option (Gs)) × (Gs → Int32 → Int32 → Option (Gs))) (gT : Gs) (v3 : Int32) : Option (Gs) :=
  if (gI gT 35) ≤ v3 then (rec.2.2.2.2.1 (sI (sL gT 87 (0 : Int64)) 88 (0 : Int32)) (0 : Int32)) else (grd (inB v3 400) (bnd (f_X12_keepName n gT ((52 : Int32) + v3) (gIA gT 53 v3.toNatClampNeg)) (fun q_19 => grd (inB v3 400) (grd (inB v3 8) (rec.2.2.2.2.2.2.1 (sIA q_19 78 (upd (gIA q_19 78) v3.toNatClampNeg (gIA q_19 55 v3.toNatClampNeg))) v3 (0 : Int32))))))
def h_X12_settle_422 (n : Nat) (rec : (Gs → Int32 → Int32 → Option (Gs)) × (Gs → Int32 → Int32 → Option (Gs)) × (Gs → Int32 → Option (Gs)) × (Gs → Int32 → Option (Gs)) × (Gs → Int32 → Option (Gs)) × (Gs → Int32 → Option (Gs)) × (Gs → Int32 → Int32 → Option (Gs)) × (Gs → Int32 → Int32 → Option (Gs))) (gT : Gs) (v3 : Int32) : Option (Gs) :=
  if (gI gT 34) ≤ v3 then (rec.2.2.2.1 gT (0 : Int32)) else (grd (inB v3 400) (bnd (f_X12_keepName n gT ((40 : Int32) + v3) (gIA gT 48 v3.toNatClampNeg)) (fun q_28 => grd (inB v3 400) (grd (inB v3 12) (grd (inB v3 400) (grd (inB v3 12) (grd (inB v3 12) (rec.2.2.1 (sIA (sIA (sIA q_28 74 (upd (gIA q_28 74) v3.toNatClampNeg ((gIA q_28 49 v3.toNatClampNeg) - (2000 : Int32)))) 75 (upd (gIA q_28 75) v3.toNatClampNeg ((gIA q_28 50 v3.toNatClampNeg) - (2000 : Int32)))) 86 (upd (gIA q_28 86) v3.toNatClampNeg (0 : Int32))) (v3 + (1 : Int32))))))))))
def b_X12_settle_414 (n : Nat) (rec : (Gs → Int32 → Int32 → Option (Gs)) × (Gs → Int32 → Int32 → Option (Gs)) × (Gs → Int32 → Option (Gs)) × (Gs → Int32 → Option (Gs)) × (Gs → Int32 → Option (Gs)) × (Gs → Int32 → Option (Gs)) × (Gs → Int32 → Int32 → Option (Gs)) × (Gs → Int32 → Int32 → Option (Gs))) (gT : Gs) (v2 : Int32) (v3 : Int32) : Option (Gs) :=
  rec.2.1 gT v2 (v3 + (1 : Int32))
def b_X12_settle_276 (n : Nat) (rec : (Gs → Int32 → Int32 → Option (Gs)) × (Gs → Int32 → Int32 → Option (Gs)) × (Gs → Int32 → Option (Gs)) × (Gs → Int32 → Option (Gs)) × (Gs → Int32 → Option (Gs)) × (Gs → Int32 → Option (Gs)) × (Gs → Int32 → Int32 → Option (Gs)) × (Gs → Int32 → Int32 → Option (Gs))) (gT : Gs) (v2 : Int32) (v3 : Int32) : Option (Gs) :=
  if v3 = (gI gT 60) then (b_X12_settle_414 n rec gT v2 v3) else (grd (inB (gI gT 77) 52) (grd (inB v3 400) (bnd (f_X12_keepName n (sI (sIA gT 76 (upd (gIA gT 76) (gI gT 77).toNatClampNeg v3)) 77 ((gI gT 77) + (1 : Int32))) v3 (gIA gT 37 v3.toNatClampNeg)) (fun q_37 => grd (inB v3 400) (grd (inB v3 40) (grd (inB v3 400) (grd (inB v3 40) (grd (inB v3 400) (grd (inB v3 40) (grd (inB v3 400) (grd (inB v3 40) (grd (inB v3 400) (grd (inB v3 40) (grd (inB v3 400) (grd (inB v3 40) (grd (inB v3 400) (grd (inB v3 40) (b_X12_settle_414 n rec (sIA (sIA (sIA (sIA (sIA (sIA (sIA q_37 67 (upd (gIA q_37 67) v3.toNatClampNeg (gIA q_37 38 v3.toNatClampNeg))) 68 (upd (gIA q_37 68) v3.toNatClampNeg (vp_nar .boolean (gIA q_37 39 v3.toNatClampNeg)))) 69 (upd (gIA q_37 69) v3.toNatClampNeg ((gIA q_37 40 v3.toNatClampNeg) - (2000 : Int32)))) 70 (upd (gIA q_37 70) v3.toNatClampNeg ((gIA q_37 41 v3.toNatClampNeg) - (2000 : Int32)))) 71 (upd (gIA q_37 71) v3.toNatClampNeg ((gIA q_37 42 v3.toNatClampNeg) - (2000 : Int32)))) 72 (upd (gIA q_37 72) v3.toNatClampNeg (gIA q_37 46 v3.toNatClampNeg))) 73 (upd (gIA q_37 73) v3.toNatClampNeg (gIA q_37 47 v3.toNatClampNeg))) v2 v3))))))))))))))))))
def b_X12_settle_247 (n : Nat) (rec : (Gs → Int32 → Int32 → Option (Gs)) × (Gs → Int32 → Int32 → Option (Gs)) × (Gs → Int32 → Option (Gs)) × (Gs → Int32 → Option (Gs)) × (Gs → Int32 → Option (Gs)) × (Gs → Int32 → Option (Gs)) × (Gs → Int32 → Int32 → Option (Gs)) × (Gs → Int32 → Int32 → Option (Gs))) (gT : Gs) (v2 : Int32) (v3 : Int32) : Option (Gs) :=
  grd (inB (gI gT 77) 52) (rec.2.2.2.2.2.2.2 (sI (sIA gT 76 (upd (gIA gT 76) (gI gT 77).toNatClampNeg ((100 : Int32) + v2))) 77 ((gI gT 77) + (1 : Int32))) (v2 + (1 : Int32)) v3)
def h_X12_settle_216 (n : Nat) (rec : (Gs → Int32 → Int32 → Option (Gs)) × (Gs → Int32 → Int32 → Option (Gs)) × (Gs → Int32 → Option (Gs)) × (Gs → Int32 → Option (Gs)) × (Gs → Int32 → Option (Gs)) × (Gs → Int32 → Option (Gs)) × (Gs → Int32 → Int32 → Option (Gs)) × (Gs → Int32 → Int32 → Option (Gs))) (gT : Gs) (v2 : Int32) (v3 : Int32) : Option (Gs) :=
  if (gI gT 34) ≤ v2 then (b_X12_settle_276 n rec gT v2 v3) else (if v3 = (gI gT 60) then (b_X12_settle_247 n rec gT v2 v3) else (grd (inB v2 400) (grd (inB v3 400) (if (gIA gT 45 v3.toNatClampNeg) ≤ (gIA gT 52 v2.toNatClampNeg) then (b_X12_settle_276 n rec gT v2 v3) else (b_X12_settle_247 n rec gT v2 v3)))))
def h_X12_settle_208 (n : Nat) (rec : (Gs → Int32 → Int32 → Option (Gs)) × (Gs → Int32 → Int32 → Option (Gs)) × (Gs → Int32 → Option (Gs)) × (Gs → Int32 → Option (Gs)) × (Gs → Int32 → Option (Gs)) × (Gs → Int32 → Option (Gs)) × (Gs → Int32 → Int32 → Option (Gs)) × (Gs → Int32 → Int32 → Option (Gs))) (gT : Gs) (v2 : Int32) (v3 : Int32) : Option (Gs) :=
  if (gI gT 60) < v3 then (rec.2.2.1 gT (0 : Int32)) else (rec.2.2.2.2.2.2.2 gT v2 v3)
def b_X12_settle_114 (n : Nat) (rec : (Gs → Int32 → Int32 → Option (Gs)) × (Gs → Int32 → Int32 → Option (Gs)) × (Gs → Int32 → Option (Gs)) × (Gs → Int32 → Option (Gs)) × (Gs → Int32 → Option (Gs)) × (Gs → Int32 → Option (Gs)) × (Gs → Int32 → Int32 → Option (Gs)) × (Gs → Int32 → Int32 → Option (Gs))) (gT : Gs) (v1 : Int32) (v2 : Int32) (v3 : Int32) (s0 : Int32) (s1 : Int32) : Option (Gs) :=
  grd (inB s1 8000) (grd (inB v3 8000) (grd (inB v2 8000) (grd (inB v3 8000) (grd (inB v2 8000) (grd (inB v3 8000) (grd (inB v2 8000) (rec.1 (sLA (sIA (sIA (sIA gT 15 (upd (gIA gT 15) s1.toNatClampNeg s0)) 16 (upd (gIA gT 16) v2.toNatClampNeg (gIA gT 16 v3.toNatClampNeg))) 17 (upd (gIA gT 17) v2.toNatClampNeg (gIA gT 17 v3.toNatClampNeg))) 18 (vp_updL (gLA gT 18) v2.toNatClampNeg (gLA gT 18 v3.toNatClampNeg))) v1 (v2 + (1 : Int32)))))))))
def b_X12_settle_71 (n : Nat) (rec : (Gs → Int32 → Int32 → Option (Gs)) × (Gs → Int32 → Int32 → Option (Gs)) × (Gs → Int32 → Option (Gs)) × (Gs → Int32 → Option (Gs)) × (Gs → Int32 → Option (Gs)) × (Gs → Int32 → Option (Gs)) × (Gs → Int32 → Int32 → Option (Gs)) × (Gs → Int32 → Int32 → Option (Gs))) (gT : Gs) (v1 : Int32) (v2 : Int32) (v3 : Int32) (s0 : Int32) : Option (Gs) :=
  grd (inB v3 8000) (grd (inB v2 8000) (if s0 = 0 then (grd (inB v3 8000) (b_X12_settle_114 n rec (sIA gT 14 (upd (gIA gT 14) v2.toNatClampNeg (gIA gT 14 v3.toNatClampNeg))) v1 v2 v3 (gIA gT 15 v3.toNatClampNeg) v2)) else (grd (inB v3 8000) (b_X12_settle_114 n rec (sIA gT 14 (upd (gIA gT 14) v2.toNatClampNeg (gIA gT 14 v3.toNatClampNeg))) v1 v2 v3 ((gIA gT 15 v3.toNatClampNeg) - (2000 : Int32)) v2))))
def b_X12_settle_66 (n : Nat) (rec : (Gs → Int32 → Int32 → Option (Gs)) × (Gs → Int32 → Int32 → Option (Gs)) × (Gs → Int32 → Option (Gs)) × (Gs → Int32 → Option (Gs)) × (Gs → Int32 → Option (Gs)) × (Gs → Int32 → Option (Gs)) × (Gs → Int32 → Int32 → Option (Gs)) × (Gs → Int32 → Int32 → Option (Gs))) (gT : Gs) (v1 : Int32) (v2 : Int32) (v3 : Int32) : Option (Gs) :=
  b_X12_settle_71 n rec gT v1 v2 v3 (1 : Int32)
def h_X12_settle_11 (n : Nat) (rec : (Gs → Int32 → Int32 → Option (Gs)) × (Gs → Int32 → Int32 → Option (Gs)) × (Gs → Int32 → Option (Gs)) × (Gs → Int32 → Option (Gs)) × (Gs → Int32 → Option (Gs)) × (Gs → Int32 → Option (Gs)) × (Gs → Int32 → Int32 → Option (Gs)) × (Gs → Int32 → Int32 → Option (Gs))) (gT : Gs) (v1 : Int32) (v2 : Int32) : Option (Gs) :=
  if v1 ≤ v2 then (rec.2.1 (sI (sI (sI (sI (sI (sI gT 60 (gI gT 33)) 61 (gI gT 34)) 62 (gI gT 35)) 63 (gI gT 24)) 64 ((gI gT 64) + (1 : Int32))) 77 (0 : Int32)) (0 : Int32) (0 : Int32)) else (grd (inB ((2000 : Int32) + v2) 8000) (if (gIA gT 14 ((2000 : Int32) + v2).toNatClampNeg) = (13 : Int32) then (b_X12_settle_66 n rec gT v1 v2 ((2000 : Int32) + v2)) else (grd (inB ((2000 : Int32) + v2) 8000) (if (gIA gT 14 ((2000 : Int32) + v2).toNatClampNeg) = (15 : Int32) then (b_X12_settle_66 n rec gT v1 v2 ((2000 : Int32) + v2)) else (grd (inB ((2000 : Int32) + v2) 8000) (if (gIA gT 14 ((2000 : Int32) + v2).toNatClampNeg) = (17 : Int32) then (b_X12_settle_66 n rec gT v1 v2 ((2000 : Int32) + v2)) else (grd (inB ((2000 : Int32) + v2) 8000) (if (gIA gT 14 ((2000 : Int32) + v2).toNatClampNeg) = (18 : Int32) then (b_X12_settle_66 n rec gT v1 v2 ((2000 : Int32) + v2)) else (b_X12_settle_71 n rec gT v1 v2 ((2000 : Int32) + v2) (0 : Int32))))))))))
def L_X12_settle (n : Nat) : Nat → ((Gs → Int32 → Int32 → Option (Gs)) × (Gs → Int32 → Int32 → Option (Gs)) × (Gs → Int32 → Option (Gs)) × (Gs → Int32 → Option (Gs)) × (Gs → Int32 → Option (Gs)) × (Gs → Int32 → Option (Gs)) × (Gs → Int32 → Int32 → Option (Gs)) × (Gs → Int32 → Int32 → Option (Gs)))
  | 0 => ((fun _ _ _ => none), (fun _ _ _ => none), (fun _ _ => none), (fun _ _ => none), (fun _ _ => none), (fun _ _ => none), (fun _ _ _ => none), (fun _ _ _ => none))
  | k + 1 => (h_X12_settle_11 n (L_X12_settle n k), h_X12_settle_208 n (L_X12_settle n k), h_X12_settle_422 n (L_X12_settle n k), h_X12_settle_491 n (L_X12_settle n k), h_X12_settle_589 n (L_X12_settle n k), h_X12_settle_624 n (L_X12_settle n k), h_X12_settle_528 n (L_X12_settle n k), h_X12_settle_216 n (L_X12_settle n k))
def f_X12_settle (n : Nat) (gT : Gs) : Option (Gs) :=
  (L_X12_settle n n).1 gT ((gI gT 19) - (2000 : Int32)) (0 : Int32)
def S_X12_settle_692 (l : Launch) (D : Dx) (hT : Nat) (aT : Nat → Nat) (yT : Nat → ClassId) (fn : Gs → Int32 → Option (Gs)) : Prop :=
  ∀ {p : Program} {e : Env} {s : State} {m : MethodId} {args : Array Value} {below : List Frame} {meth : Method} {c : Code} {H : Heap} {locs : List Loc} {A : Nat → Prop} {ls : Array Slot} {gT : Gs} {v3 : Int32} {q : Gs}, Cx p s m args meth c cX12_settle none 5 RX12 lw_all → Hx D (tX12 yT) A s H locs (wX12 hT aT yT gT) → lv_has ls 5 [(0, .ref hT), (3, .int v3)] → fn gT v3 = some q → W p l e R_X12_settle s m args below meth c H locs 0 0 (MQ below (QV D A (wX12 hT aT yT q)) args s 0 0 A) (F0 m 692 ls [])
def S_X12_settle_624 (l : Launch) (D : Dx) (hT : Nat) (aT : Nat → Nat) (yT : Nat → ClassId) (fn : Gs → Int32 → Option (Gs)) : Prop :=
  ∀ {p : Program} {e : Env} {s : State} {m : MethodId} {args : Array Value} {below : List Frame} {meth : Method} {c : Code} {H : Heap} {locs : List Loc} {A : Nat → Prop} {ls : Array Slot} {gT : Gs} {v3 : Int32} {q : Gs}, Cx p s m args meth c cX12_settle none 5 RX12 lw_all → Hx D (tX12 yT) A s H locs (wX12 hT aT yT gT) → lv_has ls 5 [(0, .ref hT), (3, .int v3)] → fn gT v3 = some q → W p l e R_X12_settle s m args below meth c H locs 0 0 (MQ below (QV D A (wX12 hT aT yT q)) args s 0 0 A) (F0 m 624 ls [])
def S_X12_settle_589 (l : Launch) (D : Dx) (hT : Nat) (aT : Nat → Nat) (yT : Nat → ClassId) (fn : Gs → Int32 → Option (Gs)) : Prop :=
  ∀ {p : Program} {e : Env} {s : State} {m : MethodId} {args : Array Value} {below : List Frame} {meth : Method} {c : Code} {H : Heap} {locs : List Loc} {A : Nat → Prop} {ls : Array Slot} {gT : Gs} {v3 : Int32} {q : Gs}, Cx p s m args meth c cX12_settle none 5 RX12 lw_all → Hx D (tX12 yT) A s H locs (wX12 hT aT yT gT) → lv_has ls 5 [(0, .ref hT), (3, .int v3)] → fn gT v3 = some q → W p l e R_X12_settle s m args below meth c H locs 0 0 (MQ below (QV D A (wX12 hT aT yT q)) args s 0 0 A) (F0 m 589 ls [])
def S_X12_settle_528 (l : Launch) (D : Dx) (hT : Nat) (aT : Nat → Nat) (yT : Nat → ClassId) (fn : Gs → Int32 → Int32 → Option (Gs)) : Prop :=
  ∀ {p : Program} {e : Env} {s : State} {m : MethodId} {args : Array Value} {below : List Frame} {meth : Method} {c : Code} {H : Heap} {locs : List Loc} {A : Nat → Prop} {ls : Array Slot} {gT : Gs} {v3 : Int32} {v4 : Int32} {q : Gs}, Cx p s m args meth c cX12_settle none 5 RX12 lw_all → Hx D (tX12 yT) A s H locs (wX12 hT aT yT gT) → lv_has ls 5 [(0, .ref hT), (3, .int v3), (4, .int v4)] → fn gT v3 v4 = some q → W p l e R_X12_settle s m args below meth c H locs 0 0 (MQ below (QV D A (wX12 hT aT yT q)) args s 0 0 A) (F0 m 528 ls [])
def S_X12_settle_491 (l : Launch) (D : Dx) (hT : Nat) (aT : Nat → Nat) (yT : Nat → ClassId) (fn : Gs → Int32 → Option (Gs)) : Prop :=
  ∀ {p : Program} {e : Env} {s : State} {m : MethodId} {args : Array Value} {below : List Frame} {meth : Method} {c : Code} {H : Heap} {locs : List Loc} {A : Nat → Prop} {ls : Array Slot} {gT : Gs} {v3 : Int32} {q : Gs}, Cx p s m args meth c cX12_settle none 5 RX12 lw_all → Hx D (tX12 yT) A s H locs (wX12 hT aT yT gT) → lv_has ls 5 [(0, .ref hT), (3, .int v3)] → fn gT v3 = some q → W p l e R_X12_settle s m args below meth c H locs 0 0 (MQ below (QV D A (wX12 hT aT yT q)) args s 0 0 A) (F0 m 491 ls [])
def S_X12_settle_422 (l : Launch) (D : Dx) (hT : Nat) (aT : Nat → Nat) (yT : Nat → ClassId) (fn : Gs → Int32 → Option (Gs)) : Prop :=
  ∀ {p : Program} {e : Env} {s : State} {m : MethodId} {args : Array Value} {below : List Frame} {meth : Method} {c : Code} {H : Heap} {locs : List Loc} {A : Nat → Prop} {ls : Array Slot} {gT : Gs} {v3 : Int32} {q : Gs}, Cx p s m args meth c cX12_settle none 5 RX12 lw_all → Hx D (tX12 yT) A s H locs (wX12 hT aT yT gT) → lv_has ls 5 [(0, .ref hT), (3, .int v3)] → fn gT v3 = some q → W p l e R_X12_settle s m args below meth c H locs 0 0 (MQ below (QV D A (wX12 hT aT yT q)) args s 0 0 A) (F0 m 422 ls [])
def S_X12_settle_414 (l : Launch) (D : Dx) (hT : Nat) (aT : Nat → Nat) (yT : Nat → ClassId) (fn : Gs → Int32 → Int32 → Option (Gs)) : Prop :=
  ∀ {p : Program} {e : Env} {s : State} {m : MethodId} {args : Array Value} {below : List Frame} {meth : Method} {c : Code} {H : Heap} {locs : List Loc} {A : Nat → Prop} {ls : Array Slot} {gT : Gs} {v2 : Int32} {v3 : Int32} {q : Gs}, Cx p s m args meth c cX12_settle none 5 RX12 lw_all → Hx D (tX12 yT) A s H locs (wX12 hT aT yT gT) → lv_has ls 5 [(0, .ref hT), (2, .int v2), (3, .int v3)] → fn gT v2 v3 = some q → W p l e R_X12_settle s m args below meth c H locs 0 0 (MQ below (QV D A (wX12 hT aT yT q)) args s 0 0 A) (F0 m 414 ls [])
def S_X12_settle_276 (l : Launch) (D : Dx) (hT : Nat) (aT : Nat → Nat) (yT : Nat → ClassId) (fn : Gs → Int32 → Int32 → Option (Gs)) : Prop :=
  ∀ {p : Program} {e : Env} {s : State} {m : MethodId} {args : Array Value} {below : List Frame} {meth : Method} {c : Code} {H : Heap} {locs : List Loc} {A : Nat → Prop} {ls : Array Slot} {gT : Gs} {v2 : Int32} {v3 : Int32} {q : Gs}, Cx p s m args meth c cX12_settle none 5 RX12 lw_all → Hx D (tX12 yT) A s H locs (wX12 hT aT yT gT) → lv_has ls 5 [(0, .ref hT), (2, .int v2), (3, .int v3)] → fn gT v2 v3 = some q → W p l e R_X12_settle s m args below meth c H locs 0 0 (MQ below (QV D A (wX12 hT aT yT q)) args s 0 0 A) (F0 m 276 ls [])
def S_X12_settle_247 (l : Launch) (D : Dx) (hT : Nat) (aT : Nat → Nat) (yT : Nat → ClassId) (fn : Gs → Int32 → Int32 → Option (Gs)) : Prop :=
  ∀ {p : Program} {e : Env} {s : State} {m : MethodId} {args : Array Value} {below : List Frame} {meth : Method} {c : Code} {H : Heap} {locs : List Loc} {A : Nat → Prop} {ls : Array Slot} {gT : Gs} {v2 : Int32} {v3 : Int32} {q : Gs}, Cx p s m args meth c cX12_settle none 5 RX12 lw_all → Hx D (tX12 yT) A s H locs (wX12 hT aT yT gT) → lv_has ls 5 [(0, .ref hT), (2, .int v2), (3, .int v3)] → fn gT v2 v3 = some q → W p l e R_X12_settle s m args below meth c H locs 0 0 (MQ below (QV D A (wX12 hT aT yT q)) args s 0 0 A) (F0 m 247 ls [])
def S_X12_settle_216 (l : Launch) (D : Dx) (hT : Nat) (aT : Nat → Nat) (yT : Nat → ClassId) (fn : Gs → Int32 → Int32 → Option (Gs)) : Prop :=
  ∀ {p : Program} {e : Env} {s : State} {m : MethodId} {args : Array Value} {below : List Frame} {meth : Method} {c : Code} {H : Heap} {locs : List Loc} {A : Nat → Prop} {ls : Array Slot} {gT : Gs} {v2 : Int32} {v3 : Int32} {q : Gs}, Cx p s m args meth c cX12_settle none 5 RX12 lw_all → Hx D (tX12 yT) A s H locs (wX12 hT aT yT gT) → lv_has ls 5 [(0, .ref hT), (2, .int v2), (3, .int v3)] → fn gT v2 v3 = some q → W p l e R_X12_settle s m args below meth c H locs 0 0 (MQ below (QV D A (wX12 hT aT yT q)) args s 0 0 A) (F0 m 216 ls [])
def S_X12_settle_208 (l : Launch) (D : Dx) (hT : Nat) (aT : Nat → Nat) (yT : Nat → ClassId) (fn : Gs → Int32 → Int32 → Option (Gs)) : Prop :=
  ∀ {p : Program} {e : Env} {s : State} {m : MethodId} {args : Array Value} {below : List Frame} {meth : Method} {c : Code} {H : Heap} {locs : List Loc} {A : Nat → Prop} {ls : Array Slot} {gT : Gs} {v2 : Int32} {v3 : Int32} {q : Gs}, Cx p s m args meth c cX12_settle none 5 RX12 lw_all → Hx D (tX12 yT) A s H locs (wX12 hT aT yT gT) → lv_has ls 5 [(0, .ref hT), (2, .int v2), (3, .int v3)] → fn gT v2 v3 = some q → W p l e R_X12_settle s m args below meth c H locs 0 0 (MQ below (QV D A (wX12 hT aT yT q)) args s 0 0 A) (F0 m 208 ls [])
def S_X12_settle_114 (l : Launch) (D : Dx) (hT : Nat) (aT : Nat → Nat) (yT : Nat → ClassId) (fn : Gs → Int32 → Int32 → Int32 → Int32 → Int32 → Option (Gs)) : Prop :=
  ∀ {p : Program} {e : Env} {s : State} {m : MethodId} {args : Array Value} {below : List Frame} {meth : Method} {c : Code} {H : Heap} {locs : List Loc} {A : Nat → Prop} {ls : Array Slot} {gT : Gs} {v1 : Int32} {v2 : Int32} {v3 : Int32} {s0 : Int32} {s1 : Int32} {q : Gs}, Cx p s m args meth c cX12_settle none 5 RX12 lw_all → Hx D (tX12 yT) A s H locs (wX12 hT aT yT gT) → lv_has ls 5 [(0, .ref hT), (1, .int v1), (2, .int v2), (3, .int v3)] → fn gT v1 v2 v3 s0 s1 = some q → W p l e R_X12_settle s m args below meth c H locs 0 0 (MQ below (QV D A (wX12 hT aT yT q)) args s 0 0 A) (F0 m 114 ls [.int s0, .int s1, .ref (aT 15)])
def S_X12_settle_71 (l : Launch) (D : Dx) (hT : Nat) (aT : Nat → Nat) (yT : Nat → ClassId) (fn : Gs → Int32 → Int32 → Int32 → Int32 → Option (Gs)) : Prop :=
  ∀ {p : Program} {e : Env} {s : State} {m : MethodId} {args : Array Value} {below : List Frame} {meth : Method} {c : Code} {H : Heap} {locs : List Loc} {A : Nat → Prop} {ls : Array Slot} {gT : Gs} {v1 : Int32} {v2 : Int32} {v3 : Int32} {s0 : Int32} {q : Gs}, Cx p s m args meth c cX12_settle none 5 RX12 lw_all → Hx D (tX12 yT) A s H locs (wX12 hT aT yT gT) → lv_has ls 5 [(0, .ref hT), (1, .int v1), (2, .int v2), (3, .int v3)] → fn gT v1 v2 v3 s0 = some q → W p l e R_X12_settle s m args below meth c H locs 0 0 (MQ below (QV D A (wX12 hT aT yT q)) args s 0 0 A) (F0 m 71 ls [.int s0])
def S_X12_settle_66 (l : Launch) (D : Dx) (hT : Nat) (aT : Nat → Nat) (yT : Nat → ClassId) (fn : Gs → Int32 → Int32 → Int32 → Option (Gs)) : Prop :=
  ∀ {p : Program} {e : Env} {s : State} {m : MethodId} {args : Array Value} {below : List Frame} {meth : Method} {c : Code} {H : Heap} {locs : List Loc} {A : Nat → Prop} {ls : Array Slot} {gT : Gs} {v1 : Int32} {v2 : Int32} {v3 : Int32} {q : Gs}, Cx p s m args meth c cX12_settle none 5 RX12 lw_all → Hx D (tX12 yT) A s H locs (wX12 hT aT yT gT) → lv_has ls 5 [(0, .ref hT), (1, .int v1), (2, .int v2), (3, .int v3)] → fn gT v1 v2 v3 = some q → W p l e R_X12_settle s m args below meth c H locs 0 0 (MQ below (QV D A (wX12 hT aT yT q)) args s 0 0 A) (F0 m 66 ls [])
def S_X12_settle_11 (l : Launch) (D : Dx) (hT : Nat) (aT : Nat → Nat) (yT : Nat → ClassId) (fn : Gs → Int32 → Int32 → Option (Gs)) : Prop :=
  ∀ {p : Program} {e : Env} {s : State} {m : MethodId} {args : Array Value} {below : List Frame} {meth : Method} {c : Code} {H : Heap} {locs : List Loc} {A : Nat → Prop} {ls : Array Slot} {gT : Gs} {v1 : Int32} {v2 : Int32} {q : Gs}, Cx p s m args meth c cX12_settle none 5 RX12 lw_all → Hx D (tX12 yT) A s H locs (wX12 hT aT yT gT) → lv_has ls 5 [(0, .ref hT), (1, .int v1), (2, .int v2)] → fn gT v1 v2 = some q → W p l e R_X12_settle s m args below meth c H locs 0 0 (MQ below (QV D A (wX12 hT aT yT q)) args s 0 0 A) (F0 m 11 ls [])
def SH_X12_settle (l : Launch) (D : Dx) (hT : Nat) (aT : Nat → Nat) (yT : Nat → ClassId) (rec : (Gs → Int32 → Int32 → Option (Gs)) × (Gs → Int32 → Int32 → Option (Gs)) × (Gs → Int32 → Option (Gs)) × (Gs → Int32 → Option (Gs)) × (Gs → Int32 → Option (Gs)) × (Gs → Int32 → Option (Gs)) × (Gs → Int32 → Int32 → Option (Gs)) × (Gs → Int32 → Int32 → Option (Gs))) : Prop := S_X12_settle_11 l D hT aT yT rec.1 ∧ S_X12_settle_208 l D hT aT yT rec.2.1 ∧ S_X12_settle_422 l D hT aT yT rec.2.2.1 ∧ S_X12_settle_491 l D hT aT yT rec.2.2.2.1 ∧ S_X12_settle_589 l D hT aT yT rec.2.2.2.2.1 ∧ S_X12_settle_624 l D hT aT yT rec.2.2.2.2.2.1 ∧ S_X12_settle_528 l D hT aT yT rec.2.2.2.2.2.2.1 ∧ S_X12_settle_216 l D hT aT yT rec.2.2.2.2.2.2.2
set_option maxHeartbeats 4000000 in
set_option maxRecDepth 100000 in
theorem k_X12_settle_692 (l : Launch) (D : Dx) (hT : Nat) (aT : Nat → Nat) (yT : Nat → ClassId) (n : Nat) (rec : (Gs → Int32 → Int32 → Option (Gs)) × (Gs → Int32 → Int32 → Option (Gs)) × (Gs → Int32 → Option (Gs)) × (Gs → Int32 → Option (Gs)) × (Gs → Int32 → Option (Gs)) × (Gs → Int32 → Option (Gs)) × (Gs → Int32 → Int32 → Option (Gs)) × (Gs → Int32 → Int32 → Option (Gs))) (IH : SH_X12_settle l D hT aT yT rec) : S_X12_settle_692 l D hT aT yT (b_X12_settle_692 n rec) := by
  intro p e s m args below meth c H locs A ls gT v3 q C X hl hF
  obtain ⟨hx, hb, hr, hml, hown, hts, hlk⟩ := id C
  unfold b_X12_settle_692 at hF
  refine lv_aload_n hx hb dX12_settle_692 rfl (lv_at hl 0 rfl) ?_
  refine va_get (D := D.1) (ci := 12) (v := .ref (aT 81)) (C := RX12) (T := TX12) (N := 114) hx hb hts wi_X12 hown X.1 X.2.1 0 rfl rfl 81 (by decide) (hts _ q7_35) (fun _ h9 => h9) (fl_get (by decide)) dX12_settle_693 ?_
  refine lv_iload_n hx hb dX12_settle_696 rfl (lv_at hl 1 rfl) ?_
  refine lv_aload_n hx hb dX12_settle_697 rfl (lv_at hl 0 rfl) ?_
  refine va_get (D := D.1) (ci := 12) (v := .ref (aT 80)) (C := RX12) (T := TX12) (N := 114) hx hb hts wi_X12 hown X.1 X.2.1 0 rfl rfl 80 (by decide) (hts _ q7_34) (fun _ h9 => h9) (fl_get (by decide)) dX12_settle_698 ?_
  refine lv_iload_n hx hb dX12_settle_701 rfl (lv_at hl 1 rfl) ?_
  obtain ⟨h_8, hF⟩ := grd_some hF
  refine va_lald (D := D.1) (f := gLA gT 80) hx hb X.1 X.2.1 54 53 rfl rfl (inB_ok h_8) dX12_settle_702 ?_
  obtain ⟨h_9, hF⟩ := grd_some hF
  refine va_last (D := D.1) (f := gLA gT 81) hx hb X.1 X.2.1 X.2.2.1 X.2.2.2.1 55 54 rfl rfl (inB_ok h_9) dX12_settle_703 (fun H locs hP hD hS => ?_)
  have X : Hx D (tX12 yT) A s H locs (wX12 hT aT yT (sLA gT 81 (vp_updL (gLA gT 81) v3.toNatClampNeg (gLA gT 80 v3.toNatClampNeg)))) := Hx_set X (wG_sLA (i := 54) (k := 81) ndX12 rfl rfl) hP hD hS
  refine lv_iinc (v := v3 + (1 : Int32)) (lv' := [(3, .int (v3 + (1 : Int32))), (0, .ref hT)]) hx hb dX12_settle_704 hl (k := 1) rfl rfl (by decide) rfl (fun ls hl => ?_)
  refine lv_goto (tgt := 624) hx hb dX12_settle_707 (by decide) ?_
  exact IH.2.2.2.2.2.1 C X (lv_sub hl [1, 0] rfl) hF
set_option maxHeartbeats 4000000 in
set_option maxRecDepth 100000 in
theorem k_X12_settle_624 (l : Launch) (D : Dx) (hT : Nat) (aT : Nat → Nat) (yT : Nat → ClassId) (n : Nat) (rec : (Gs → Int32 → Int32 → Option (Gs)) × (Gs → Int32 → Int32 → Option (Gs)) × (Gs → Int32 → Option (Gs)) × (Gs → Int32 → Option (Gs)) × (Gs → Int32 → Option (Gs)) × (Gs → Int32 → Option (Gs)) × (Gs → Int32 → Int32 → Option (Gs)) × (Gs → Int32 → Int32 → Option (Gs))) (IH : SH_X12_settle l D hT aT yT rec) : S_X12_settle_624 l D hT aT yT (h_X12_settle_624 n rec) := by
  intro p e s m args below meth c H locs A ls gT v3 q C X hl hF
  obtain ⟨hx, hb, hr, hml, hown, hts, hlk⟩ := id C
  unfold h_X12_settle_624 at hF
  refine lv_iload_n hx hb dX12_settle_624 rfl (lv_at hl 1 rfl) ?_
  refine lv_aload_n hx hb dX12_settle_625 rfl (lv_at hl 0 rfl) ?_
  refine va_get (D := D.1) (ci := 12) (v := .int (gI gT 60)) (C := RX12) (T := TX12) (N := 114) hx hb hts wi_X12 hown X.1 X.2.1 0 rfl rfl 60 (by decide) (hts _ q7_14) (fun _ h9 => h9) (fl_get (by decide)) dX12_settle_626 ?_
  refine lv_icmp_ge (tgt := 710) hx hb dX12_settle_629 (by decide) (fun c => ?_) (fun c => ?_)
  · replace hF := iT c hF
    have hq := Option.some.inj hF
    subst hq
    exact rt_v C X dX12_settle_710
  · replace hF := iF c hF
    refine lv_aload_n hx hb dX12_settle_632 rfl (lv_at hl 0 rfl) ?_
    refine va_get (D := D.1) (ci := 12) (v := .ref (aT 80)) (C := RX12) (T := TX12) (N := 114) hx hb hts wi_X12 hown X.1 X.2.1 0 rfl rfl 80 (by decide) (hts _ q7_34) (fun _ h9 => h9) (fl_get (by decide)) dX12_settle_633 ?_
    refine lv_iload_n hx hb dX12_settle_636 rfl (lv_at hl 1 rfl) ?_
    refine lv_lconst (v := (0 : Int64)) hx hb dX12_settle_637 (by decide) ?_
    obtain ⟨h_1, hF⟩ := grd_some hF
    refine va_last (D := D.1) (f := gLA gT 80) hx hb X.1 X.2.1 X.2.2.1 X.2.2.2.1 54 53 rfl rfl (inB_ok h_1) dX12_settle_638 (fun H locs hP hD hS => ?_)
    have X : Hx D (tX12 yT) A s H locs (wX12 hT aT yT (sLA gT 80 (vp_updL (gLA gT 80) v3.toNatClampNeg (0 : Int64)))) := Hx_set X (wG_sLA (i := 53) (k := 80) ndX12 rfl rfl) hP hD hS
    refine lv_aload_n hx hb dX12_settle_639 rfl (lv_at hl 0 rfl) ?_
    refine lv_aload_n hx hb dX12_settle_640 rfl (lv_at hl 0 rfl) ?_
    refine va_get (D := D.1) (ci := 12) (v := .ref (aT 69)) (C := RX12) (T := TX12) (N := 114) hx hb hts wi_X12 hown X.1 X.2.1 0 rfl rfl 69 (by decide) (hts _ q7_23) (fun _ h9 => h9) (fl_get (by decide)) dX12_settle_641 ?_
    refine lv_iload_n hx hb dX12_settle_644 rfl (lv_at hl 1 rfl) ?_
    obtain ⟨h_2, hF⟩ := grd_some hF
    refine va_iald (D := D.1) (f := gIA gT 69) hx hb X.1 X.2.1 44 43 rfl rfl (inB_ok h_2) dX12_settle_645 ?_
    refine lv_aload_n hx hb dX12_settle_646 rfl (lv_at hl 0 rfl) ?_
    refine va_get (D := D.1) (ci := 12) (v := .ref (aT 70)) (C := RX12) (T := TX12) (N := 114) hx hb hts wi_X12 hown X.1 X.2.1 0 rfl rfl 70 (by decide) (hts _ q7_24) (fun _ h9 => h9) (fl_get (by decide)) dX12_settle_647 ?_
    refine lv_iload_n hx hb dX12_settle_650 rfl (lv_at hl 1 rfl) ?_
    obtain ⟨h_3, hF⟩ := grd_some hF
    refine va_iald (D := D.1) (f := gIA gT 70) hx hb X.1 X.2.1 45 44 rfl rfl (inB_ok h_3) dX12_settle_651 ?_
    obtain ⟨q_4, hc_5, hF⟩ := bnd_some hF
    refine cV_i (As := [.int (gIA gT 69 v3.toNatClampNeg), .int (gIA gT 70 v3.toNatClampNeg)]) (rest := []) C X (c_X12_works l D hT aT yT n (sLA gT 80 (vp_updL (gLA gT 80) v3.toNatClampNeg (0 : Int64))) (gIA gT 69 v3.toNatClampNeg) (gIA gT 70 v3.toNatClampNeg) q_4 hc_5 _) (cwV 2 hts (good_V q9_69 q9_71 q0_109 q1_9 q9_72) rfl rfl rfl (by decide +kernel) ⟨Nat.le_of_ble_eq_true rfl, Nat.le_of_ble_eq_true rfl⟩) (va_recv X.1 X.2.1 (ci := 12) (q0 := 0) rfl rfl) X.1 X.2.1 X.2.2.1 (free_all X) hl.1 rfl rfl (Nat.le_of_ble_eq_true rfl) dX12_settle_652 ⟨Nat.le_of_ble_eq_true rfl, Nat.le_of_ble_eq_true rfl⟩ (fun t H1 locs1 ht hB hk hS => ?_)
    have X : Hx D (tX12 yT) A s H1 locs1 (wX12 hT aT yT q_4.2) := Hx_after_all X ht hB hS
    clear hk hS ht hB
    generalize H1 = H at X ⊢
    generalize locs1 = locs at X ⊢
    refine lv_if_eq (tgt := 687) hx hb dX12_settle_655 (by decide) (fun c => ?_) (fun c => ?_)
    · replace hF := iT c hF
      refine lv_aload_n hx hb dX12_settle_687 rfl (lv_at hl 0 rfl) ?_
      refine lv_iload_n hx hb dX12_settle_688 rfl (lv_at hl 1 rfl) ?_
      obtain ⟨q_6, hc_7, hF⟩ := bnd_some hF
      refine cV_v (As := [.int v3]) (rest := []) C X (c_X12_jammed l D hT aT yT q_4.2 v3 q_6 hc_7 _) (cwV 1 hts (good_V q9_138 q9_140 q0_121 q1_9 q9_141) rfl rfl rfl (by decide +kernel) ⟨Nat.le_of_ble_eq_true rfl, Nat.le_of_ble_eq_true rfl⟩) (va_recv X.1 X.2.1 (ci := 12) (q0 := 0) rfl rfl) X.1 X.2.1 X.2.2.1 (free_all X) hl.1 rfl rfl (Nat.le_of_ble_eq_true rfl) dX12_settle_689 ⟨Nat.le_of_ble_eq_true rfl, Nat.le_of_ble_eq_true rfl⟩ (fun t H1 locs1 ht hB hk hS => ?_)
      have X : Hx D (tX12 yT) A s H1 locs1 (wX12 hT aT yT q_6) := Hx_after_all X ht hB hS
      clear hk hS ht hB
      generalize H1 = H at X ⊢
      generalize locs1 = locs at X ⊢
      exact (k_X12_settle_692 l D hT aT yT n rec IH) C X (lv_sub hl [0, 1] rfl) hF
    · replace hF := iF c hF
      refine lv_aload_n hx hb dX12_settle_658 rfl (lv_at hl 0 rfl) ?_
      refine va_get (D := D.1) (ci := 12) (v := .ref (aT 80)) (C := RX12) (T := TX12) (N := 114) hx hb hts wi_X12 hown X.1 X.2.1 0 rfl rfl 80 (by decide) (hts _ q7_34) (fun _ h9 => h9) (fl_get (by decide)) dX12_settle_659 ?_
      refine lv_iload_n hx hb dX12_settle_662 rfl (lv_at hl 1 rfl) ?_
      refine lv_aload_n hx hb dX12_settle_663 rfl (lv_at hl 0 rfl) ?_
      refine lv_aload_n hx hb dX12_settle_664 rfl (lv_at hl 0 rfl) ?_
      refine va_get (D := D.1) (ci := 12) (v := .long (gL q_4.2 94)) (C := RX12) (T := TX12) (N := 114) hx hb hts wi_X12 hown X.1 X.2.1 0 rfl rfl 94 (by decide) (hts _ q7_48) (fun _ h9 => h9) (fl_get (by decide)) dX12_settle_665 ?_
      refine lv_aload_n hx hb dX12_settle_668 rfl (lv_at hl 0 rfl) ?_
      refine va_get (D := D.1) (ci := 12) (v := .ref (aT 72)) (C := RX12) (T := TX12) (N := 114) hx hb hts wi_X12 hown X.1 X.2.1 0 rfl rfl 72 (by decide) (hts _ q7_26) (fun _ h9 => h9) (fl_get (by decide)) dX12_settle_669 ?_
      refine lv_iload_n hx hb dX12_settle_672 rfl (lv_at hl 1 rfl) ?_
      obtain ⟨h_10, hF⟩ := grd_some hF
      refine va_iald (D := D.1) (f := gIA q_4.2 72) hx hb X.1 X.2.1 47 46 rfl rfl (inB_ok h_10) dX12_settle_673 ?_
      refine lv_aload_n hx hb dX12_settle_674 rfl (lv_at hl 0 rfl) ?_
      refine va_get (D := D.1) (ci := 12) (v := .ref (aT 67)) (C := RX12) (T := TX12) (N := 114) hx hb hts wi_X12 hown X.1 X.2.1 0 rfl rfl 67 (by decide) (hts _ q7_21) (fun _ h9 => h9) (fl_get (by decide)) dX12_settle_675 ?_
      refine lv_iload_n hx hb dX12_settle_678 rfl (lv_at hl 1 rfl) ?_
      obtain ⟨h_11, hF⟩ := grd_some hF
      refine va_iald (D := D.1) (f := gIA q_4.2 67) hx hb X.1 X.2.1 42 41 rfl rfl (inB_ok h_11) dX12_settle_679 ?_
      obtain ⟨q_12, hc_13, hF⟩ := bnd_some hF
      refine cV_l (As := [.long (gL q_4.2 94), .int (gIA q_4.2 72 v3.toNatClampNeg), .int (gIA q_4.2 67 v3.toNatClampNeg)]) (rest := [.int v3, .ref (aT 80)]) C X (c_X12_become l D hT aT yT n q_4.2 (gL q_4.2 94) (gIA q_4.2 72 v3.toNatClampNeg) (gIA q_4.2 67 v3.toNatClampNeg) q_12 hc_13 _) (cwV 3 hts (good_V q8_136 q8_138 q0_73 q1_9 q8_139) rfl rfl rfl (by decide +kernel) ⟨Nat.le_of_ble_eq_true rfl, Nat.le_of_ble_eq_true rfl⟩) (va_recv X.1 X.2.1 (ci := 12) (q0 := 0) rfl rfl) X.1 X.2.1 X.2.2.1 (free_all X) hl.1 rfl rfl (Nat.le_of_ble_eq_true rfl) dX12_settle_680 ⟨Nat.le_of_ble_eq_true rfl, Nat.le_of_ble_eq_true rfl⟩ (fun t H1 locs1 ht hB hk hS => ?_)
      have X : Hx D (tX12 yT) A s H1 locs1 (wX12 hT aT yT q_12.2) := Hx_after_all X ht hB hS
      clear hk hS ht hB
      generalize H1 = H at X ⊢
      generalize locs1 = locs at X ⊢
      obtain ⟨h_14, hF⟩ := grd_some hF
      refine va_last (D := D.1) (f := gLA q_12.2 80) hx hb X.1 X.2.1 X.2.2.1 X.2.2.2.1 54 53 rfl rfl (inB_ok h_14) dX12_settle_683 (fun H locs hP hD hS => ?_)
      have X : Hx D (tX12 yT) A s H locs (wX12 hT aT yT (sLA q_12.2 80 (vp_updL (gLA q_12.2 80) v3.toNatClampNeg q_12.1))) := Hx_set X (wG_sLA (i := 53) (k := 80) ndX12 rfl rfl) hP hD hS
      refine lv_goto (tgt := 692) hx hb dX12_settle_684 (by decide) ?_
      exact (k_X12_settle_692 l D hT aT yT n rec IH) C X (lv_sub hl [0, 1] rfl) hF
set_option maxHeartbeats 4000000 in
set_option maxRecDepth 100000 in
theorem k_X12_settle_589 (l : Launch) (D : Dx) (hT : Nat) (aT : Nat → Nat) (yT : Nat → ClassId) (n : Nat) (rec : (Gs → Int32 → Int32 → Option (Gs)) × (Gs → Int32 → Int32 → Option (Gs)) × (Gs → Int32 → Option (Gs)) × (Gs → Int32 → Option (Gs)) × (Gs → Int32 → Option (Gs)) × (Gs → Int32 → Option (Gs)) × (Gs → Int32 → Int32 → Option (Gs)) × (Gs → Int32 → Int32 → Option (Gs))) (IH : SH_X12_settle l D hT aT yT rec) : S_X12_settle_589 l D hT aT yT (h_X12_settle_589 n rec) := by
  intro p e s m args below meth c H locs A ls gT v3 q C X hl hF
  obtain ⟨hx, hb, hr, hml, hown, hts, hlk⟩ := id C
  unfold h_X12_settle_589 at hF
  refine lv_iload_n hx hb dX12_settle_589 rfl (lv_at hl 1 rfl) ?_
  refine lv_bipush (v := (52 : Int32)) hx hb dX12_settle_590 (by decide) ?_
  refine lv_icmp_ge (tgt := 622) hx hb dX12_settle_592 (by decide) (fun c => ?_) (fun c => ?_)
  · replace hF := iT c hF
    refine lv_iconst (v := (0 : Int32)) hx hb dX12_settle_622 (by decide) ?_
    refine lv_istore_n (lv' := [(3, .int (0 : Int32)), (0, .ref hT)]) hx hb dX12_settle_623 rfl hl (by decide) rfl (fun ls hl => ?_)
    exact IH.2.2.2.2.2.1 C X (lv_sub hl [1, 0] rfl) hF
  · replace hF := iF c hF
    refine lv_aload_n hx hb dX12_settle_595 rfl (lv_at hl 0 rfl) ?_
    refine va_get (D := D.1) (ci := 12) (v := .ref (aT 83)) (C := RX12) (T := TX12) (N := 114) hx hb hts wi_X12 hown X.1 X.2.1 0 rfl rfl 83 (by decide) (hts _ q7_37) (fun _ h9 => h9) (fl_get (by decide)) dX12_settle_596 ?_
    refine lv_iload_n hx hb dX12_settle_599 rfl (lv_at hl 1 rfl) ?_
    refine lv_iconst (v := (0 : Int32)) hx hb dX12_settle_600 (by decide) ?_
    obtain ⟨h_15, hF⟩ := grd_some hF
    refine va_iast (D := D.1) (f := gIA gT 83) hx hb X.1 X.2.1 X.2.2.1 X.2.2.2.1 57 56 rfl rfl (inB_ok h_15) dX12_settle_601 (fun H locs hP hD hS => ?_)
    have X : Hx D (tX12 yT) A s H locs (wX12 hT aT yT (sIA gT 83 (upd (gIA gT 83) v3.toNatClampNeg (0 : Int32)))) := Hx_set X (wG_sIA (i := 56) (k := 83) ndX12 rfl rfl) hP hD hS
    refine lv_aload_n hx hb dX12_settle_602 rfl (lv_at hl 0 rfl) ?_
    refine va_get (D := D.1) (ci := 12) (v := .ref (aT 84)) (C := RX12) (T := TX12) (N := 114) hx hb hts wi_X12 hown X.1 X.2.1 0 rfl rfl 84 (by decide) (hts _ q7_38) (fun _ h9 => h9) (fl_get (by decide)) dX12_settle_603 ?_
    refine lv_iload_n hx hb dX12_settle_606 rfl (lv_at hl 1 rfl) ?_
    refine lv_iconst (v := (0 : Int32)) hx hb dX12_settle_607 (by decide) ?_
    obtain ⟨h_16, hF⟩ := grd_some hF
    refine va_iast (D := D.1) (f := gIA gT 84) hx hb X.1 X.2.1 X.2.2.1 X.2.2.2.1 58 57 rfl rfl (inB_ok h_16) dX12_settle_608 (fun H locs hP hD hS => ?_)
    have X : Hx D (tX12 yT) A s H locs (wX12 hT aT yT (sIA (sIA gT 83 (upd (gIA gT 83) v3.toNatClampNeg (0 : Int32))) 84 (upd (gIA gT 84) v3.toNatClampNeg (0 : Int32)))) := Hx_set X (wG_sIA (i := 57) (k := 84) ndX12 rfl rfl) hP hD hS
    refine lv_aload_n hx hb dX12_settle_609 rfl (lv_at hl 0 rfl) ?_
    refine va_get (D := D.1) (ci := 12) (v := .ref (aT 85)) (C := RX12) (T := TX12) (N := 114) hx hb hts wi_X12 hown X.1 X.2.1 0 rfl rfl 85 (by decide) (hts _ q7_39) (fun _ h9 => h9) (fl_get (by decide)) dX12_settle_610 ?_
    refine lv_iload_n hx hb dX12_settle_613 rfl (lv_at hl 1 rfl) ?_
    refine lv_iconst (v := (-1 : Int32)) hx hb dX12_settle_614 (by decide) ?_
    obtain ⟨h_17, hF⟩ := grd_some hF
    refine va_iast (D := D.1) (f := gIA gT 85) hx hb X.1 X.2.1 X.2.2.1 X.2.2.2.1 59 58 rfl rfl (inB_ok h_17) dX12_settle_615 (fun H locs hP hD hS => ?_)
    have X : Hx D (tX12 yT) A s H locs (wX12 hT aT yT (sIA (sIA (sIA gT 83 (upd (gIA gT 83) v3.toNatClampNeg (0 : Int32))) 84 (upd (gIA gT 84) v3.toNatClampNeg (0 : Int32))) 85 (upd (gIA gT 85) v3.toNatClampNeg (-1 : Int32)))) := Hx_set X (wG_sIA (i := 58) (k := 85) ndX12 rfl rfl) hP hD hS
    refine lv_iinc (v := v3 + (1 : Int32)) (lv' := [(3, .int (v3 + (1 : Int32))), (0, .ref hT)]) hx hb dX12_settle_616 hl (k := 1) rfl rfl (by decide) rfl (fun ls hl => ?_)
    refine lv_goto (tgt := 589) hx hb dX12_settle_619 (by decide) ?_
    exact IH.2.2.2.2.1 C X (lv_sub hl [1, 0] rfl) hF
set_option maxHeartbeats 4000000 in
set_option maxRecDepth 100000 in
theorem k_X12_settle_528 (l : Launch) (D : Dx) (hT : Nat) (aT : Nat → Nat) (yT : Nat → ClassId) (n : Nat) (rec : (Gs → Int32 → Int32 → Option (Gs)) × (Gs → Int32 → Int32 → Option (Gs)) × (Gs → Int32 → Option (Gs)) × (Gs → Int32 → Option (Gs)) × (Gs → Int32 → Option (Gs)) × (Gs → Int32 → Option (Gs)) × (Gs → Int32 → Int32 → Option (Gs)) × (Gs → Int32 → Int32 → Option (Gs))) (IH : SH_X12_settle l D hT aT yT rec) : S_X12_settle_528 l D hT aT yT (h_X12_settle_528 n rec) := by
  intro p e s m args below meth c H locs A ls gT v3 v4 q C X hl hF
  obtain ⟨hx, hb, hr, hml, hown, hts, hlk⟩ := id C
  unfold h_X12_settle_528 at hF
  refine lv_iload hx hb dX12_settle_528 (lv_at hl 2 rfl) ?_
  refine lv_aload_n hx hb dX12_settle_530 rfl (lv_at hl 0 rfl) ?_
  refine va_get (D := D.1) (ci := 12) (v := .ref (aT 55)) (C := RX12) (T := TX12) (N := 114) hx hb hts wi_X12 hown X.1 X.2.1 0 rfl rfl 55 (by decide) (hts _ q7_9) (fun _ h9 => h9) (fl_get (by decide)) dX12_settle_531 ?_
  refine lv_iload_n hx hb dX12_settle_534 rfl (lv_at hl 1 rfl) ?_
  obtain ⟨h_23, hF⟩ := grd_some hF
  refine va_iald (D := D.1) (f := gIA gT 55) hx hb X.1 X.2.1 37 36 rfl rfl (inB_ok h_23) dX12_settle_535 ?_
  refine lv_icmp_ge (tgt := 571) hx hb dX12_settle_536 (by decide) (fun c => ?_) (fun c => ?_)
  · replace hF := iT c hF
    refine lv_iinc (v := v3 + (1 : Int32)) (lv' := [(3, .int (v3 + (1 : Int32))), (0, .ref hT), (4, .int v4)]) hx hb dX12_settle_571 hl (k := 1) rfl rfl (by decide) rfl (fun ls hl => ?_)
    refine lv_goto (tgt := 491) hx hb dX12_settle_574 (by decide) ?_
    exact IH.2.2.2.1 C X (lv_sub hl [1, 0] rfl) hF
  · replace hF := iF c hF
    refine lv_aload_n hx hb dX12_settle_539 rfl (lv_at hl 0 rfl) ?_
    refine va_get (D := D.1) (ci := 12) (v := .ref (aT 79)) (C := RX12) (T := TX12) (N := 114) hx hb hts wi_X12 hown X.1 X.2.1 0 rfl rfl 79 (by decide) (hts _ q7_33) (fun _ h9 => h9) (fl_get (by decide)) dX12_settle_540 ?_
    refine lv_bipush (v := (24 : Int32)) hx hb dX12_settle_543 (by decide) ?_
    refine lv_iload_n hx hb dX12_settle_545 rfl (lv_at hl 1 rfl) ?_
    refine lv_imul hx hb dX12_settle_546 ?_
    refine lv_iload hx hb dX12_settle_547 (lv_at hl 2 rfl) ?_
    refine lv_iadd hx hb dX12_settle_549 ?_
    refine lv_aload_n hx hb dX12_settle_550 rfl (lv_at hl 0 rfl) ?_
    refine va_get (D := D.1) (ci := 12) (v := .ref (aT 56)) (C := RX12) (T := TX12) (N := 114) hx hb hts wi_X12 hown X.1 X.2.1 0 rfl rfl 56 (by decide) (hts _ q7_10) (fun _ h9 => h9) (fl_get (by decide)) dX12_settle_551 ?_
    refine lv_aload_n hx hb dX12_settle_554 rfl (lv_at hl 0 rfl) ?_
    refine va_get (D := D.1) (ci := 12) (v := .ref (aT 54)) (C := RX12) (T := TX12) (N := 114) hx hb hts wi_X12 hown X.1 X.2.1 0 rfl rfl 54 (by decide) (hts _ q7_8) (fun _ h9 => h9) (fl_get (by decide)) dX12_settle_555 ?_
    refine lv_iload_n hx hb dX12_settle_558 rfl (lv_at hl 1 rfl) ?_
    obtain ⟨h_24, hF⟩ := grd_some hF
    refine va_iald (D := D.1) (f := gIA gT 54) hx hb X.1 X.2.1 36 35 rfl rfl (inB_ok h_24) dX12_settle_559 ?_
    refine lv_iload hx hb dX12_settle_560 (lv_at hl 2 rfl) ?_
    refine lv_iadd hx hb dX12_settle_562 ?_
    obtain ⟨h_25, hF⟩ := grd_some hF
    refine va_lald (D := D.1) (f := gLA gT 56) hx hb X.1 X.2.1 38 37 rfl rfl (inB_ok h_25) dX12_settle_563 ?_
    obtain ⟨h_26, hF⟩ := grd_some hF
    refine va_last (D := D.1) (f := gLA gT 79) hx hb X.1 X.2.1 X.2.2.1 X.2.2.2.1 53 52 rfl rfl (inB_ok h_26) dX12_settle_564 (fun H locs hP hD hS => ?_)
    have X : Hx D (tX12 yT) A s H locs (wX12 hT aT yT (sLA gT 79 (vp_updL (gLA gT 79) (((24 : Int32) * v3) + v4).toNatClampNeg (gLA gT 56 ((gIA gT 54 v3.toNatClampNeg) + v4).toNatClampNeg)))) := Hx_set X (wG_sLA (i := 52) (k := 79) ndX12 rfl rfl) hP hD hS
    refine lv_iinc (v := v4 + (1 : Int32)) (lv' := [(4, .int (v4 + (1 : Int32))), (0, .ref hT), (3, .int v3)]) hx hb dX12_settle_565 hl (k := 2) rfl rfl (by decide) rfl (fun ls hl => ?_)
    refine lv_goto (tgt := 528) hx hb dX12_settle_568 (by decide) ?_
    exact IH.2.2.2.2.2.2.1 C X (lv_sub hl [1, 2, 0] rfl) hF
set_option maxHeartbeats 4000000 in
set_option maxRecDepth 100000 in
theorem k_X12_settle_491 (l : Launch) (D : Dx) (hT : Nat) (aT : Nat → Nat) (yT : Nat → ClassId) (n : Nat) (rec : (Gs → Int32 → Int32 → Option (Gs)) × (Gs → Int32 → Int32 → Option (Gs)) × (Gs → Int32 → Option (Gs)) × (Gs → Int32 → Option (Gs)) × (Gs → Int32 → Option (Gs)) × (Gs → Int32 → Option (Gs)) × (Gs → Int32 → Int32 → Option (Gs)) × (Gs → Int32 → Int32 → Option (Gs))) (IH : SH_X12_settle l D hT aT yT rec) : S_X12_settle_491 l D hT aT yT (h_X12_settle_491 n rec) := by
  intro p e s m args below meth c H locs A ls gT v3 q C X hl hF
  obtain ⟨hx, hb, hr, hml, hown, hts, hlk⟩ := id C
  unfold h_X12_settle_491 at hF
  refine lv_iload_n hx hb dX12_settle_491 rfl (lv_at hl 1 rfl) ?_
  refine lv_aload_n hx hb dX12_settle_492 rfl (lv_at hl 0 rfl) ?_
  refine va_get (D := D.1) (ci := 12) (v := .int (gI gT 35)) (C := RX12) (T := TX12) (N := 114) hx hb hts wi_X12 hown X.1 X.2.1 0 rfl rfl 35 (by decide) (hts _ q6_229) (fun _ h9 => h9) (fl_get (by decide)) dX12_settle_493 ?_
  refine lv_icmp_ge (tgt := 577) hx hb dX12_settle_496 (by decide) (fun c => ?_) (fun c => ?_)
  · replace hF := iT c hF
    refine lv_aload_n hx hb dX12_settle_577 rfl (lv_at hl 0 rfl) ?_
    refine lv_lconst (v := (0 : Int64)) hx hb dX12_settle_578 (by decide) ?_
    refine va_put (D := D.1) (ci := 12) (v := .long (0 : Int64)) (ty := .long) (C := RX12) (T := TX12) (N := 114) hx hb hts wi_X12 tyX12 tyX12_ok nmX12 hown X.1 X.2.1 X.2.2.1 X.2.2.2.1 0 rfl rfl 87 (by decide) (hts _ q7_41) (fun _ h9 => h9) rfl (by decide +kernel) rfl rfl (by rw [List.length_map, List.length_range]; decide) dX12_settle_579 (fun H locs hP hD hS => ?_)
    have X : Hx D (tX12 yT) A s H locs (wX12 hT aT yT (sL gT 87 (0 : Int64))) := Hx_set X (wG_sL (k := 87) rfl) hP hD hS
    refine lv_aload_n hx hb dX12_settle_582 rfl (lv_at hl 0 rfl) ?_
    refine lv_iconst (v := (0 : Int32)) hx hb dX12_settle_583 (by decide) ?_
    refine va_put (D := D.1) (ci := 12) (v := .int (0 : Int32)) (ty := .int) (C := RX12) (T := TX12) (N := 114) hx hb hts wi_X12 tyX12 tyX12_ok nmX12 hown X.1 X.2.1 X.2.2.1 X.2.2.2.1 0 rfl rfl 88 (by decide) (hts _ q7_42) (fun _ h9 => h9) rfl (by decide +kernel) rfl rfl (by rw [List.length_map, List.length_range]; decide) dX12_settle_584 (fun H locs hP hD hS => ?_)
    have X : Hx D (tX12 yT) A s H locs (wX12 hT aT yT (sI (sL gT 87 (0 : Int64)) 88 (0 : Int32))) := Hx_set X (wG_sI (k := 88) rfl) hP hD hS
    refine lv_iconst (v := (0 : Int32)) hx hb dX12_settle_587 (by decide) ?_
    refine lv_istore_n (lv' := [(3, .int (0 : Int32)), (0, .ref hT)]) hx hb dX12_settle_588 rfl hl (by decide) rfl (fun ls hl => ?_)
    exact IH.2.2.2.2.1 C X (lv_sub hl [1, 0] rfl) hF
  · replace hF := iF c hF
    refine lv_aload_n hx hb dX12_settle_499 rfl (lv_at hl 0 rfl) ?_
    refine lv_bipush (v := (52 : Int32)) hx hb dX12_settle_500 (by decide) ?_
    refine lv_iload_n hx hb dX12_settle_502 rfl (lv_at hl 1 rfl) ?_
    refine lv_iadd hx hb dX12_settle_503 ?_
    refine lv_aload_n hx hb dX12_settle_504 rfl (lv_at hl 0 rfl) ?_
    refine va_get (D := D.1) (ci := 12) (v := .ref (aT 53)) (C := RX12) (T := TX12) (N := 114) hx hb hts wi_X12 hown X.1 X.2.1 0 rfl rfl 53 (by decide) (hts _ q7_7) (fun _ h9 => h9) (fl_get (by decide)) dX12_settle_505 ?_
    refine lv_iload_n hx hb dX12_settle_508 rfl (lv_at hl 1 rfl) ?_
    obtain ⟨h_18, hF⟩ := grd_some hF
    refine va_iald (D := D.1) (f := gIA gT 53) hx hb X.1 X.2.1 35 34 rfl rfl (inB_ok h_18) dX12_settle_509 ?_
    obtain ⟨q_19, hc_20, hF⟩ := bnd_some hF
    refine cV_v (As := [.int ((52 : Int32) + v3), .int (gIA gT 53 v3.toNatClampNeg)]) (rest := []) C X (c_X12_keepName l D hT aT yT n gT ((52 : Int32) + v3) (gIA gT 53 v3.toNatClampNeg) q_19 hc_20 _) (cwV 2 hts (good_V q9_65 q9_67 q0_108 q1_9 q9_68) rfl rfl rfl (by decide +kernel) ⟨Nat.le_of_ble_eq_true rfl, Nat.le_of_ble_eq_true rfl⟩) (va_recv X.1 X.2.1 (ci := 12) (q0 := 0) rfl rfl) X.1 X.2.1 X.2.2.1 (free_all X) hl.1 rfl rfl (Nat.le_of_ble_eq_true rfl) dX12_settle_510 ⟨Nat.le_of_ble_eq_true rfl, Nat.le_of_ble_eq_true rfl⟩ (fun t H1 locs1 ht hB hk hS => ?_)
    have X : Hx D (tX12 yT) A s H1 locs1 (wX12 hT aT yT q_19) := Hx_after_all X ht hB hS
    clear hk hS ht hB
    generalize H1 = H at X ⊢
    generalize locs1 = locs at X ⊢
    refine lv_aload_n hx hb dX12_settle_513 rfl (lv_at hl 0 rfl) ?_
    refine va_get (D := D.1) (ci := 12) (v := .ref (aT 78)) (C := RX12) (T := TX12) (N := 114) hx hb hts wi_X12 hown X.1 X.2.1 0 rfl rfl 78 (by decide) (hts _ q7_32) (fun _ h9 => h9) (fl_get (by decide)) dX12_settle_514 ?_
    refine lv_iload_n hx hb dX12_settle_517 rfl (lv_at hl 1 rfl) ?_
    refine lv_aload_n hx hb dX12_settle_518 rfl (lv_at hl 0 rfl) ?_
    refine va_get (D := D.1) (ci := 12) (v := .ref (aT 55)) (C := RX12) (T := TX12) (N := 114) hx hb hts wi_X12 hown X.1 X.2.1 0 rfl rfl 55 (by decide) (hts _ q7_9) (fun _ h9 => h9) (fl_get (by decide)) dX12_settle_519 ?_
    refine lv_iload_n hx hb dX12_settle_522 rfl (lv_at hl 1 rfl) ?_
    obtain ⟨h_21, hF⟩ := grd_some hF
    refine va_iald (D := D.1) (f := gIA q_19 55) hx hb X.1 X.2.1 37 36 rfl rfl (inB_ok h_21) dX12_settle_523 ?_
    obtain ⟨h_22, hF⟩ := grd_some hF
    refine va_iast (D := D.1) (f := gIA q_19 78) hx hb X.1 X.2.1 X.2.2.1 X.2.2.2.1 52 51 rfl rfl (inB_ok h_22) dX12_settle_524 (fun H locs hP hD hS => ?_)
    have X : Hx D (tX12 yT) A s H locs (wX12 hT aT yT (sIA q_19 78 (upd (gIA q_19 78) v3.toNatClampNeg (gIA q_19 55 v3.toNatClampNeg)))) := Hx_set X (wG_sIA (i := 51) (k := 78) ndX12 rfl rfl) hP hD hS
    refine lv_iconst (v := (0 : Int32)) hx hb dX12_settle_525 (by decide) ?_
    refine lv_istore (lv' := [(4, .int (0 : Int32)), (0, .ref hT), (3, .int v3)]) hx hb dX12_settle_526 hl (by decide) rfl (fun ls hl => ?_)
    exact IH.2.2.2.2.2.2.1 C X (lv_sub hl [1, 2, 0] rfl) hF
set_option maxHeartbeats 4000000 in
set_option maxRecDepth 100000 in
theorem k_X12_settle_422 (l : Launch) (D : Dx) (hT : Nat) (aT : Nat → Nat) (yT : Nat → ClassId) (n : Nat) (rec : (Gs → Int32 → Int32 → Option (Gs)) × (Gs → Int32 → Int32 → Option (Gs)) × (Gs → Int32 → Option (Gs)) × (Gs → Int32 → Option (Gs)) × (Gs → Int32 → Option (Gs)) × (Gs → Int32 → Option (Gs)) × (Gs → Int32 → Int32 → Option (Gs)) × (Gs → Int32 → Int32 → Option (Gs))) (IH : SH_X12_settle l D hT aT yT rec) : S_X12_settle_422 l D hT aT yT (h_X12_settle_422 n rec) := by
  intro p e s m args below meth c H locs A ls gT v3 q C X hl hF
  obtain ⟨hx, hb, hr, hml, hown, hts, hlk⟩ := id C
  unfold h_X12_settle_422 at hF
  refine lv_iload_n hx hb dX12_settle_422 rfl (lv_at hl 1 rfl) ?_
  refine lv_aload_n hx hb dX12_settle_423 rfl (lv_at hl 0 rfl) ?_
  refine va_get (D := D.1) (ci := 12) (v := .int (gI gT 34)) (C := RX12) (T := TX12) (N := 114) hx hb hts wi_X12 hown X.1 X.2.1 0 rfl rfl 34 (by decide) (hts _ q6_228) (fun _ h9 => h9) (fl_get (by decide)) dX12_settle_424 ?_
  refine lv_icmp_ge (tgt := 489) hx hb dX12_settle_427 (by decide) (fun c => ?_) (fun c => ?_)
  · replace hF := iT c hF
    refine lv_iconst (v := (0 : Int32)) hx hb dX12_settle_489 (by decide) ?_
    refine lv_istore_n (lv' := [(3, .int (0 : Int32)), (0, .ref hT)]) hx hb dX12_settle_490 rfl hl (by decide) rfl (fun ls hl => ?_)
    exact IH.2.2.2.1 C X (lv_sub hl [1, 0] rfl) hF
  · replace hF := iF c hF
    refine lv_aload_n hx hb dX12_settle_430 rfl (lv_at hl 0 rfl) ?_
    refine lv_bipush (v := (40 : Int32)) hx hb dX12_settle_431 (by decide) ?_
    refine lv_iload_n hx hb dX12_settle_433 rfl (lv_at hl 1 rfl) ?_
    refine lv_iadd hx hb dX12_settle_434 ?_
    refine lv_aload_n hx hb dX12_settle_435 rfl (lv_at hl 0 rfl) ?_
    refine va_get (D := D.1) (ci := 12) (v := .ref (aT 48)) (C := RX12) (T := TX12) (N := 114) hx hb hts wi_X12 hown X.1 X.2.1 0 rfl rfl 48 (by decide) (hts _ q7_2) (fun _ h9 => h9) (fl_get (by decide)) dX12_settle_436 ?_
    refine lv_iload_n hx hb dX12_settle_439 rfl (lv_at hl 1 rfl) ?_
    obtain ⟨h_27, hF⟩ := grd_some hF
    refine va_iald (D := D.1) (f := gIA gT 48) hx hb X.1 X.2.1 30 29 rfl rfl (inB_ok h_27) dX12_settle_440 ?_
    obtain ⟨q_28, hc_29, hF⟩ := bnd_some hF
    refine cV_v (As := [.int ((40 : Int32) + v3), .int (gIA gT 48 v3.toNatClampNeg)]) (rest := []) C X (c_X12_keepName l D hT aT yT n gT ((40 : Int32) + v3) (gIA gT 48 v3.toNatClampNeg) q_28 hc_29 _) (cwV 2 hts (good_V q9_65 q9_67 q0_108 q1_9 q9_68) rfl rfl rfl (by decide +kernel) ⟨Nat.le_of_ble_eq_true rfl, Nat.le_of_ble_eq_true rfl⟩) (va_recv X.1 X.2.1 (ci := 12) (q0 := 0) rfl rfl) X.1 X.2.1 X.2.2.1 (free_all X) hl.1 rfl rfl (Nat.le_of_ble_eq_true rfl) dX12_settle_441 ⟨Nat.le_of_ble_eq_true rfl, Nat.le_of_ble_eq_true rfl⟩ (fun t H1 locs1 ht hB hk hS => ?_)
    have X : Hx D (tX12 yT) A s H1 locs1 (wX12 hT aT yT q_28) := Hx_after_all X ht hB hS
    clear hk hS ht hB
    generalize H1 = H at X ⊢
    generalize locs1 = locs at X ⊢
    refine lv_aload_n hx hb dX12_settle_444 rfl (lv_at hl 0 rfl) ?_
    refine va_get (D := D.1) (ci := 12) (v := .ref (aT 74)) (C := RX12) (T := TX12) (N := 114) hx hb hts wi_X12 hown X.1 X.2.1 0 rfl rfl 74 (by decide) (hts _ q7_28) (fun _ h9 => h9) (fl_get (by decide)) dX12_settle_445 ?_
    refine lv_iload_n hx hb dX12_settle_448 rfl (lv_at hl 1 rfl) ?_
    refine lv_aload_n hx hb dX12_settle_449 rfl (lv_at hl 0 rfl) ?_
    refine va_get (D := D.1) (ci := 12) (v := .ref (aT 49)) (C := RX12) (T := TX12) (N := 114) hx hb hts wi_X12 hown X.1 X.2.1 0 rfl rfl 49 (by decide) (hts _ q7_3) (fun _ h9 => h9) (fl_get (by decide)) dX12_settle_450 ?_
    refine lv_iload_n hx hb dX12_settle_453 rfl (lv_at hl 1 rfl) ?_
    obtain ⟨h_30, hF⟩ := grd_some hF
    refine va_iald (D := D.1) (f := gIA q_28 49) hx hb X.1 X.2.1 31 30 rfl rfl (inB_ok h_30) dX12_settle_454 ?_
    refine lv_sipush (v := (2000 : Int32)) hx hb dX12_settle_455 (by decide) ?_
    refine lv_isub hx hb dX12_settle_458 ?_
    obtain ⟨h_31, hF⟩ := grd_some hF
    refine va_iast (D := D.1) (f := gIA q_28 74) hx hb X.1 X.2.1 X.2.2.1 X.2.2.2.1 49 48 rfl rfl (inB_ok h_31) dX12_settle_459 (fun H locs hP hD hS => ?_)
    have X : Hx D (tX12 yT) A s H locs (wX12 hT aT yT (sIA q_28 74 (upd (gIA q_28 74) v3.toNatClampNeg ((gIA q_28 49 v3.toNatClampNeg) - (2000 : Int32))))) := Hx_set X (wG_sIA (i := 48) (k := 74) ndX12 rfl rfl) hP hD hS
    refine lv_aload_n hx hb dX12_settle_460 rfl (lv_at hl 0 rfl) ?_
    refine va_get (D := D.1) (ci := 12) (v := .ref (aT 75)) (C := RX12) (T := TX12) (N := 114) hx hb hts wi_X12 hown X.1 X.2.1 0 rfl rfl 75 (by decide) (hts _ q7_29) (fun _ h9 => h9) (fl_get (by decide)) dX12_settle_461 ?_
    refine lv_iload_n hx hb dX12_settle_464 rfl (lv_at hl 1 rfl) ?_
    refine lv_aload_n hx hb dX12_settle_465 rfl (lv_at hl 0 rfl) ?_
    refine va_get (D := D.1) (ci := 12) (v := .ref (aT 50)) (C := RX12) (T := TX12) (N := 114) hx hb hts wi_X12 hown X.1 X.2.1 0 rfl rfl 50 (by decide) (hts _ q7_4) (fun _ h9 => h9) (fl_get (by decide)) dX12_settle_466 ?_
    refine lv_iload_n hx hb dX12_settle_469 rfl (lv_at hl 1 rfl) ?_
    obtain ⟨h_32, hF⟩ := grd_some hF
    refine va_iald (D := D.1) (f := gIA q_28 50) hx hb X.1 X.2.1 32 31 rfl rfl (inB_ok h_32) dX12_settle_470 ?_
    refine lv_sipush (v := (2000 : Int32)) hx hb dX12_settle_471 (by decide) ?_
    refine lv_isub hx hb dX12_settle_474 ?_
    obtain ⟨h_33, hF⟩ := grd_some hF
    refine va_iast (D := D.1) (f := gIA q_28 75) hx hb X.1 X.2.1 X.2.2.1 X.2.2.2.1 50 49 rfl rfl (inB_ok h_33) dX12_settle_475 (fun H locs hP hD hS => ?_)
    have X : Hx D (tX12 yT) A s H locs (wX12 hT aT yT (sIA (sIA q_28 74 (upd (gIA q_28 74) v3.toNatClampNeg ((gIA q_28 49 v3.toNatClampNeg) - (2000 : Int32)))) 75 (upd (gIA q_28 75) v3.toNatClampNeg ((gIA q_28 50 v3.toNatClampNeg) - (2000 : Int32))))) := Hx_set X (wG_sIA (i := 49) (k := 75) ndX12 rfl rfl) hP hD hS
    refine lv_aload_n hx hb dX12_settle_476 rfl (lv_at hl 0 rfl) ?_
    refine va_get (D := D.1) (ci := 12) (v := .ref (aT 86)) (C := RX12) (T := TX12) (N := 114) hx hb hts wi_X12 hown X.1 X.2.1 0 rfl rfl 86 (by decide) (hts _ q7_40) (fun _ h9 => h9) (fl_get (by decide)) dX12_settle_477 ?_
    refine lv_iload_n hx hb dX12_settle_480 rfl (lv_at hl 1 rfl) ?_
    refine lv_iconst (v := (0 : Int32)) hx hb dX12_settle_481 (by decide) ?_
    obtain ⟨h_34, hF⟩ := grd_some hF
    refine va_iast (D := D.1) (f := gIA q_28 86) hx hb X.1 X.2.1 X.2.2.1 X.2.2.2.1 60 59 rfl rfl (inB_ok h_34) dX12_settle_482 (fun H locs hP hD hS => ?_)
    have X : Hx D (tX12 yT) A s H locs (wX12 hT aT yT (sIA (sIA (sIA q_28 74 (upd (gIA q_28 74) v3.toNatClampNeg ((gIA q_28 49 v3.toNatClampNeg) - (2000 : Int32)))) 75 (upd (gIA q_28 75) v3.toNatClampNeg ((gIA q_28 50 v3.toNatClampNeg) - (2000 : Int32)))) 86 (upd (gIA q_28 86) v3.toNatClampNeg (0 : Int32)))) := Hx_set X (wG_sIA (i := 59) (k := 86) ndX12 rfl rfl) hP hD hS
    refine lv_iinc (v := v3 + (1 : Int32)) (lv' := [(3, .int (v3 + (1 : Int32))), (0, .ref hT)]) hx hb dX12_settle_483 hl (k := 1) rfl rfl (by decide) rfl (fun ls hl => ?_)
    refine lv_goto (tgt := 422) hx hb dX12_settle_486 (by decide) ?_
    exact IH.2.2.1 C X (lv_sub hl [1, 0] rfl) hF
set_option maxHeartbeats 4000000 in
set_option maxRecDepth 100000 in
theorem k_X12_settle_414 (l : Launch) (D : Dx) (hT : Nat) (aT : Nat → Nat) (yT : Nat → ClassId) (n : Nat) (rec : (Gs → Int32 → Int32 → Option (Gs)) × (Gs → Int32 → Int32 → Option (Gs)) × (Gs → Int32 → Option (Gs)) × (Gs → Int32 → Option (Gs)) × (Gs → Int32 → Option (Gs)) × (Gs → Int32 → Option (Gs)) × (Gs → Int32 → Int32 → Option (Gs)) × (Gs → Int32 → Int32 → Option (Gs))) (IH : SH_X12_settle l D hT aT yT rec) : S_X12_settle_414 l D hT aT yT (b_X12_settle_414 n rec) := by
  intro p e s m args below meth c H locs A ls gT v2 v3 q C X hl hF
  obtain ⟨hx, hb, hr, hml, hown, hts, hlk⟩ := id C
  unfold b_X12_settle_414 at hF
  refine lv_iinc (v := v3 + (1 : Int32)) (lv' := [(3, .int (v3 + (1 : Int32))), (0, .ref hT), (2, .int v2)]) hx hb dX12_settle_414 hl (k := 2) rfl rfl (by decide) rfl (fun ls hl => ?_)
  refine lv_goto (tgt := 208) hx hb dX12_settle_417 (by decide) ?_
  exact IH.2.1 C X (lv_sub hl [1, 2, 0] rfl) hF
set_option maxHeartbeats 4000000 in
set_option maxRecDepth 100000 in
theorem k_X12_settle_276 (l : Launch) (D : Dx) (hT : Nat) (aT : Nat → Nat) (yT : Nat → ClassId) (n : Nat) (rec : (Gs → Int32 → Int32 → Option (Gs)) × (Gs → Int32 → Int32 → Option (Gs)) × (Gs → Int32 → Option (Gs)) × (Gs → Int32 → Option (Gs)) × (Gs → Int32 → Option (Gs)) × (Gs → Int32 → Option (Gs)) × (Gs → Int32 → Int32 → Option (Gs)) × (Gs → Int32 → Int32 → Option (Gs))) (IH : SH_X12_settle l D hT aT yT rec) : S_X12_settle_276 l D hT aT yT (b_X12_settle_276 n rec) := by
  intro p e s m args below meth c H locs A ls gT v2 v3 q C X hl hF
  obtain ⟨hx, hb, hr, hml, hown, hts, hlk⟩ := id C
  unfold b_X12_settle_276 at hF
  refine lv_iload_n hx hb dX12_settle_276 rfl (lv_at hl 2 rfl) ?_
  refine lv_aload_n hx hb dX12_settle_277 rfl (lv_at hl 0 rfl) ?_
  refine va_get (D := D.1) (ci := 12) (v := .int (gI gT 60)) (C := RX12) (T := TX12) (N := 114) hx hb hts wi_X12 hown X.1 X.2.1 0 rfl rfl 60 (by decide) (hts _ q7_14) (fun _ h9 => h9) (fl_get (by decide)) dX12_settle_278 ?_
  refine lv_icmp_ne (tgt := 287) hx hb dX12_settle_281 (by decide) (fun c => ?_) (fun c => ?_)
  · replace hF := iF c hF
    refine lv_aload_n hx hb dX12_settle_287 rfl (lv_at hl 0 rfl) ?_
    refine va_get (D := D.1) (ci := 12) (v := .ref (aT 76)) (C := RX12) (T := TX12) (N := 114) hx hb hts wi_X12 hown X.1 X.2.1 0 rfl rfl 76 (by decide) (hts _ q7_30) (fun _ h9 => h9) (fl_get (by decide)) dX12_settle_288 ?_
    refine lv_aload_n hx hb dX12_settle_291 rfl (lv_at hl 0 rfl) ?_
    refine va_get (D := D.1) (ci := 12) (v := .int (gI gT 77)) (C := RX12) (T := TX12) (N := 114) hx hb hts wi_X12 hown X.1 X.2.1 0 rfl rfl 77 (by decide) (hts _ q7_31) (fun _ h9 => h9) (fl_get (by decide)) dX12_settle_292 ?_
    refine lv_iload_n hx hb dX12_settle_295 rfl (lv_at hl 2 rfl) ?_
    obtain ⟨h_35, hF⟩ := grd_some hF
    refine va_iast (D := D.1) (f := gIA gT 76) hx hb X.1 X.2.1 X.2.2.1 X.2.2.2.1 51 50 rfl rfl (inB_ok h_35) dX12_settle_296 (fun H locs hP hD hS => ?_)
    have X : Hx D (tX12 yT) A s H locs (wX12 hT aT yT (sIA gT 76 (upd (gIA gT 76) (gI gT 77).toNatClampNeg v3))) := Hx_set X (wG_sIA (i := 50) (k := 76) ndX12 rfl rfl) hP hD hS
    refine lv_aload_n hx hb dX12_settle_297 rfl (lv_at hl 0 rfl) ?_
    refine lv_dup hx hb dX12_settle_298 rfl ?_
    refine va_get (D := D.1) (ci := 12) (v := .int (gI gT 77)) (C := RX12) (T := TX12) (N := 114) hx hb hts wi_X12 hown X.1 X.2.1 0 rfl rfl 77 (by decide) (hts _ q7_31) (fun _ h9 => h9) (fl_get (by decide)) dX12_settle_299 ?_
    refine lv_iconst (v := (1 : Int32)) hx hb dX12_settle_302 (by decide) ?_
    refine lv_iadd hx hb dX12_settle_303 ?_
    refine va_put (D := D.1) (ci := 12) (v := .int ((gI gT 77) + (1 : Int32))) (ty := .int) (C := RX12) (T := TX12) (N := 114) hx hb hts wi_X12 tyX12 tyX12_ok nmX12 hown X.1 X.2.1 X.2.2.1 X.2.2.2.1 0 rfl rfl 77 (by decide) (hts _ q7_31) (fun _ h9 => h9) rfl (by decide +kernel) rfl rfl (by rw [List.length_map, List.length_range]; decide) dX12_settle_304 (fun H locs hP hD hS => ?_)
    have X : Hx D (tX12 yT) A s H locs (wX12 hT aT yT (sI (sIA gT 76 (upd (gIA gT 76) (gI gT 77).toNatClampNeg v3)) 77 ((gI gT 77) + (1 : Int32)))) := Hx_set X (wG_sI (k := 77) rfl) hP hD hS
    refine lv_aload_n hx hb dX12_settle_307 rfl (lv_at hl 0 rfl) ?_
    refine lv_iload_n hx hb dX12_settle_308 rfl (lv_at hl 2 rfl) ?_
    refine lv_aload_n hx hb dX12_settle_309 rfl (lv_at hl 0 rfl) ?_
    refine va_get (D := D.1) (ci := 12) (v := .ref (aT 37)) (C := RX12) (T := TX12) (N := 114) hx hb hts wi_X12 hown X.1 X.2.1 0 rfl rfl 37 (by decide) (hts _ q6_231) (fun _ h9 => h9) (fl_get (by decide)) dX12_settle_310 ?_
    refine lv_iload_n hx hb dX12_settle_313 rfl (lv_at hl 2 rfl) ?_
    obtain ⟨h_36, hF⟩ := grd_some hF
    refine va_iald (D := D.1) (f := gIA gT 37) hx hb X.1 X.2.1 19 18 rfl rfl (inB_ok h_36) dX12_settle_314 ?_
    obtain ⟨q_37, hc_38, hF⟩ := bnd_some hF
    refine cV_v (As := [.int v3, .int (gIA gT 37 v3.toNatClampNeg)]) (rest := []) C X (c_X12_keepName l D hT aT yT n (sI (sIA gT 76 (upd (gIA gT 76) (gI gT 77).toNatClampNeg v3)) 77 ((gI gT 77) + (1 : Int32))) v3 (gIA gT 37 v3.toNatClampNeg) q_37 hc_38 _) (cwV 2 hts (good_V q9_65 q9_67 q0_108 q1_9 q9_68) rfl rfl rfl (by decide +kernel) ⟨Nat.le_of_ble_eq_true rfl, Nat.le_of_ble_eq_true rfl⟩) (va_recv X.1 X.2.1 (ci := 12) (q0 := 0) rfl rfl) X.1 X.2.1 X.2.2.1 (free_all X) hl.1 rfl rfl (Nat.le_of_ble_eq_true rfl) dX12_settle_315 ⟨Nat.le_of_ble_eq_true rfl, Nat.le_of_ble_eq_true rfl⟩ (fun t H1 locs1 ht hB hk hS => ?_)
    have X : Hx D (tX12 yT) A s H1 locs1 (wX12 hT aT yT q_37) := Hx_after_all X ht hB hS
    clear hk hS ht hB
    generalize H1 = H at X ⊢
    generalize locs1 = locs at X ⊢
    refine lv_aload_n hx hb dX12_settle_318 rfl (lv_at hl 0 rfl) ?_
    refine va_get (D := D.1) (ci := 12) (v := .ref (aT 67)) (C := RX12) (T := TX12) (N := 114) hx hb hts wi_X12 hown X.1 X.2.1 0 rfl rfl 67 (by decide) (hts _ q7_21) (fun _ h9 => h9) (fl_get (by decide)) dX12_settle_319 ?_
    refine lv_iload_n hx hb dX12_settle_322 rfl (lv_at hl 2 rfl) ?_
    refine lv_aload_n hx hb dX12_settle_323 rfl (lv_at hl 0 rfl) ?_
    refine va_get (D := D.1) (ci := 12) (v := .ref (aT 38)) (C := RX12) (T := TX12) (N := 114) hx hb hts wi_X12 hown X.1 X.2.1 0 rfl rfl 38 (by decide) (hts _ q6_232) (fun _ h9 => h9) (fl_get (by decide)) dX12_settle_324 ?_
    refine lv_iload_n hx hb dX12_settle_327 rfl (lv_at hl 2 rfl) ?_
    obtain ⟨h_39, hF⟩ := grd_some hF
    refine va_iald (D := D.1) (f := gIA q_37 38) hx hb X.1 X.2.1 20 19 rfl rfl (inB_ok h_39) dX12_settle_328 ?_
    obtain ⟨h_40, hF⟩ := grd_some hF
    refine va_iast (D := D.1) (f := gIA q_37 67) hx hb X.1 X.2.1 X.2.2.1 X.2.2.2.1 42 41 rfl rfl (inB_ok h_40) dX12_settle_329 (fun H locs hP hD hS => ?_)
    have X : Hx D (tX12 yT) A s H locs (wX12 hT aT yT (sIA q_37 67 (upd (gIA q_37 67) v3.toNatClampNeg (gIA q_37 38 v3.toNatClampNeg)))) := Hx_set X (wG_sIA (i := 41) (k := 67) ndX12 rfl rfl) hP hD hS
    refine lv_aload_n hx hb dX12_settle_330 rfl (lv_at hl 0 rfl) ?_
    refine va_get (D := D.1) (ci := 12) (v := .ref (aT 68)) (C := RX12) (T := TX12) (N := 114) hx hb hts wi_X12 hown X.1 X.2.1 0 rfl rfl 68 (by decide) (hts _ q7_22) (fun _ h9 => h9) (fl_get (by decide)) dX12_settle_331 ?_
    refine lv_iload_n hx hb dX12_settle_334 rfl (lv_at hl 2 rfl) ?_
    refine lv_aload_n hx hb dX12_settle_335 rfl (lv_at hl 0 rfl) ?_
    refine va_get (D := D.1) (ci := 12) (v := .ref (aT 39)) (C := RX12) (T := TX12) (N := 114) hx hb hts wi_X12 hown X.1 X.2.1 0 rfl rfl 39 (by decide) (hts _ q6_233) (fun _ h9 => h9) (fl_get (by decide)) dX12_settle_336 ?_
    refine lv_iload_n hx hb dX12_settle_339 rfl (lv_at hl 2 rfl) ?_
    obtain ⟨h_41, hF⟩ := grd_some hF
    refine va_zald (D := D.1) (f := gIA q_37 39) hx hb X.1 X.2.1 21 20 rfl rfl (inB_ok h_41) dX12_settle_340 ?_
    obtain ⟨h_42, hF⟩ := grd_some hF
    refine va_zast (D := D.1) (f := gIA q_37 68) hx hb X.1 X.2.1 X.2.2.1 X.2.2.2.1 43 42 rfl rfl (inB_ok h_42) dX12_settle_341 (fun H locs hP hD hS => ?_)
    have X : Hx D (tX12 yT) A s H locs (wX12 hT aT yT (sIA (sIA q_37 67 (upd (gIA q_37 67) v3.toNatClampNeg (gIA q_37 38 v3.toNatClampNeg))) 68 (upd (gIA q_37 68) v3.toNatClampNeg (vp_nar .boolean (gIA q_37 39 v3.toNatClampNeg))))) := Hx_set X (wG_sIA (i := 42) (k := 68) ndX12 rfl rfl) hP hD hS
    refine lv_aload_n hx hb dX12_settle_342 rfl (lv_at hl 0 rfl) ?_
    refine va_get (D := D.1) (ci := 12) (v := .ref (aT 69)) (C := RX12) (T := TX12) (N := 114) hx hb hts wi_X12 hown X.1 X.2.1 0 rfl rfl 69 (by decide) (hts _ q7_23) (fun _ h9 => h9) (fl_get (by decide)) dX12_settle_343 ?_
    refine lv_iload_n hx hb dX12_settle_346 rfl (lv_at hl 2 rfl) ?_
    refine lv_aload_n hx hb dX12_settle_347 rfl (lv_at hl 0 rfl) ?_
    refine va_get (D := D.1) (ci := 12) (v := .ref (aT 40)) (C := RX12) (T := TX12) (N := 114) hx hb hts wi_X12 hown X.1 X.2.1 0 rfl rfl 40 (by decide) (hts _ q6_234) (fun _ h9 => h9) (fl_get (by decide)) dX12_settle_348 ?_
    refine lv_iload_n hx hb dX12_settle_351 rfl (lv_at hl 2 rfl) ?_
    obtain ⟨h_43, hF⟩ := grd_some hF
    refine va_iald (D := D.1) (f := gIA q_37 40) hx hb X.1 X.2.1 22 21 rfl rfl (inB_ok h_43) dX12_settle_352 ?_
    refine lv_sipush (v := (2000 : Int32)) hx hb dX12_settle_353 (by decide) ?_
    refine lv_isub hx hb dX12_settle_356 ?_
    obtain ⟨h_44, hF⟩ := grd_some hF
    refine va_iast (D := D.1) (f := gIA q_37 69) hx hb X.1 X.2.1 X.2.2.1 X.2.2.2.1 44 43 rfl rfl (inB_ok h_44) dX12_settle_357 (fun H locs hP hD hS => ?_)
    have X : Hx D (tX12 yT) A s H locs (wX12 hT aT yT (sIA (sIA (sIA q_37 67 (upd (gIA q_37 67) v3.toNatClampNeg (gIA q_37 38 v3.toNatClampNeg))) 68 (upd (gIA q_37 68) v3.toNatClampNeg (vp_nar .boolean (gIA q_37 39 v3.toNatClampNeg)))) 69 (upd (gIA q_37 69) v3.toNatClampNeg ((gIA q_37 40 v3.toNatClampNeg) - (2000 : Int32))))) := Hx_set X (wG_sIA (i := 43) (k := 69) ndX12 rfl rfl) hP hD hS
    refine lv_aload_n hx hb dX12_settle_358 rfl (lv_at hl 0 rfl) ?_
    refine va_get (D := D.1) (ci := 12) (v := .ref (aT 70)) (C := RX12) (T := TX12) (N := 114) hx hb hts wi_X12 hown X.1 X.2.1 0 rfl rfl 70 (by decide) (hts _ q7_24) (fun _ h9 => h9) (fl_get (by decide)) dX12_settle_359 ?_
    refine lv_iload_n hx hb dX12_settle_362 rfl (lv_at hl 2 rfl) ?_
    refine lv_aload_n hx hb dX12_settle_363 rfl (lv_at hl 0 rfl) ?_
    refine va_get (D := D.1) (ci := 12) (v := .ref (aT 41)) (C := RX12) (T := TX12) (N := 114) hx hb hts wi_X12 hown X.1 X.2.1 0 rfl rfl 41 (by decide) (hts _ q6_235) (fun _ h9 => h9) (fl_get (by decide)) dX12_settle_364 ?_
    refine lv_iload_n hx hb dX12_settle_367 rfl (lv_at hl 2 rfl) ?_
    obtain ⟨h_45, hF⟩ := grd_some hF
    refine va_iald (D := D.1) (f := gIA q_37 41) hx hb X.1 X.2.1 23 22 rfl rfl (inB_ok h_45) dX12_settle_368 ?_
    refine lv_sipush (v := (2000 : Int32)) hx hb dX12_settle_369 (by decide) ?_
    refine lv_isub hx hb dX12_settle_372 ?_
    obtain ⟨h_46, hF⟩ := grd_some hF
    refine va_iast (D := D.1) (f := gIA q_37 70) hx hb X.1 X.2.1 X.2.2.1 X.2.2.2.1 45 44 rfl rfl (inB_ok h_46) dX12_settle_373 (fun H locs hP hD hS => ?_)
    have X : Hx D (tX12 yT) A s H locs (wX12 hT aT yT (sIA (sIA (sIA (sIA q_37 67 (upd (gIA q_37 67) v3.toNatClampNeg (gIA q_37 38 v3.toNatClampNeg))) 68 (upd (gIA q_37 68) v3.toNatClampNeg (vp_nar .boolean (gIA q_37 39 v3.toNatClampNeg)))) 69 (upd (gIA q_37 69) v3.toNatClampNeg ((gIA q_37 40 v3.toNatClampNeg) - (2000 : Int32)))) 70 (upd (gIA q_37 70) v3.toNatClampNeg ((gIA q_37 41 v3.toNatClampNeg) - (2000 : Int32))))) := Hx_set X (wG_sIA (i := 44) (k := 70) ndX12 rfl rfl) hP hD hS
    refine lv_aload_n hx hb dX12_settle_374 rfl (lv_at hl 0 rfl) ?_
    refine va_get (D := D.1) (ci := 12) (v := .ref (aT 71)) (C := RX12) (T := TX12) (N := 114) hx hb hts wi_X12 hown X.1 X.2.1 0 rfl rfl 71 (by decide) (hts _ q7_25) (fun _ h9 => h9) (fl_get (by decide)) dX12_settle_375 ?_
    refine lv_iload_n hx hb dX12_settle_378 rfl (lv_at hl 2 rfl) ?_
    refine lv_aload_n hx hb dX12_settle_379 rfl (lv_at hl 0 rfl) ?_
    refine va_get (D := D.1) (ci := 12) (v := .ref (aT 42)) (C := RX12) (T := TX12) (N := 114) hx hb hts wi_X12 hown X.1 X.2.1 0 rfl rfl 42 (by decide) (hts _ q6_236) (fun _ h9 => h9) (fl_get (by decide)) dX12_settle_380 ?_
    refine lv_iload_n hx hb dX12_settle_383 rfl (lv_at hl 2 rfl) ?_
    obtain ⟨h_47, hF⟩ := grd_some hF
    refine va_iald (D := D.1) (f := gIA q_37 42) hx hb X.1 X.2.1 24 23 rfl rfl (inB_ok h_47) dX12_settle_384 ?_
    refine lv_sipush (v := (2000 : Int32)) hx hb dX12_settle_385 (by decide) ?_
    refine lv_isub hx hb dX12_settle_388 ?_
    obtain ⟨h_48, hF⟩ := grd_some hF
    refine va_iast (D := D.1) (f := gIA q_37 71) hx hb X.1 X.2.1 X.2.2.1 X.2.2.2.1 46 45 rfl rfl (inB_ok h_48) dX12_settle_389 (fun H locs hP hD hS => ?_)
    have X : Hx D (tX12 yT) A s H locs (wX12 hT aT yT (sIA (sIA (sIA (sIA (sIA q_37 67 (upd (gIA q_37 67) v3.toNatClampNeg (gIA q_37 38 v3.toNatClampNeg))) 68 (upd (gIA q_37 68) v3.toNatClampNeg (vp_nar .boolean (gIA q_37 39 v3.toNatClampNeg)))) 69 (upd (gIA q_37 69) v3.toNatClampNeg ((gIA q_37 40 v3.toNatClampNeg) - (2000 : Int32)))) 70 (upd (gIA q_37 70) v3.toNatClampNeg ((gIA q_37 41 v3.toNatClampNeg) - (2000 : Int32)))) 71 (upd (gIA q_37 71) v3.toNatClampNeg ((gIA q_37 42 v3.toNatClampNeg) - (2000 : Int32))))) := Hx_set X (wG_sIA (i := 45) (k := 71) ndX12 rfl rfl) hP hD hS
    refine lv_aload_n hx hb dX12_settle_390 rfl (lv_at hl 0 rfl) ?_
    refine va_get (D := D.1) (ci := 12) (v := .ref (aT 72)) (C := RX12) (T := TX12) (N := 114) hx hb hts wi_X12 hown X.1 X.2.1 0 rfl rfl 72 (by decide) (hts _ q7_26) (fun _ h9 => h9) (fl_get (by decide)) dX12_settle_391 ?_
    refine lv_iload_n hx hb dX12_settle_394 rfl (lv_at hl 2 rfl) ?_
    refine lv_aload_n hx hb dX12_settle_395 rfl (lv_at hl 0 rfl) ?_
    refine va_get (D := D.1) (ci := 12) (v := .ref (aT 46)) (C := RX12) (T := TX12) (N := 114) hx hb hts wi_X12 hown X.1 X.2.1 0 rfl rfl 46 (by decide) (hts _ q7_0) (fun _ h9 => h9) (fl_get (by decide)) dX12_settle_396 ?_
    refine lv_iload_n hx hb dX12_settle_399 rfl (lv_at hl 2 rfl) ?_
    obtain ⟨h_49, hF⟩ := grd_some hF
    refine va_iald (D := D.1) (f := gIA q_37 46) hx hb X.1 X.2.1 28 27 rfl rfl (inB_ok h_49) dX12_settle_400 ?_
    obtain ⟨h_50, hF⟩ := grd_some hF
    refine va_iast (D := D.1) (f := gIA q_37 72) hx hb X.1 X.2.1 X.2.2.1 X.2.2.2.1 47 46 rfl rfl (inB_ok h_50) dX12_settle_401 (fun H locs hP hD hS => ?_)
    have X : Hx D (tX12 yT) A s H locs (wX12 hT aT yT (sIA (sIA (sIA (sIA (sIA (sIA q_37 67 (upd (gIA q_37 67) v3.toNatClampNeg (gIA q_37 38 v3.toNatClampNeg))) 68 (upd (gIA q_37 68) v3.toNatClampNeg (vp_nar .boolean (gIA q_37 39 v3.toNatClampNeg)))) 69 (upd (gIA q_37 69) v3.toNatClampNeg ((gIA q_37 40 v3.toNatClampNeg) - (2000 : Int32)))) 70 (upd (gIA q_37 70) v3.toNatClampNeg ((gIA q_37 41 v3.toNatClampNeg) - (2000 : Int32)))) 71 (upd (gIA q_37 71) v3.toNatClampNeg ((gIA q_37 42 v3.toNatClampNeg) - (2000 : Int32)))) 72 (upd (gIA q_37 72) v3.toNatClampNeg (gIA q_37 46 v3.toNatClampNeg)))) := Hx_set X (wG_sIA (i := 46) (k := 72) ndX12 rfl rfl) hP hD hS
    refine lv_aload_n hx hb dX12_settle_402 rfl (lv_at hl 0 rfl) ?_
    refine va_get (D := D.1) (ci := 12) (v := .ref (aT 73)) (C := RX12) (T := TX12) (N := 114) hx hb hts wi_X12 hown X.1 X.2.1 0 rfl rfl 73 (by decide) (hts _ q7_27) (fun _ h9 => h9) (fl_get (by decide)) dX12_settle_403 ?_
    refine lv_iload_n hx hb dX12_settle_406 rfl (lv_at hl 2 rfl) ?_
    refine lv_aload_n hx hb dX12_settle_407 rfl (lv_at hl 0 rfl) ?_
    refine va_get (D := D.1) (ci := 12) (v := .ref (aT 47)) (C := RX12) (T := TX12) (N := 114) hx hb hts wi_X12 hown X.1 X.2.1 0 rfl rfl 47 (by decide) (hts _ q7_1) (fun _ h9 => h9) (fl_get (by decide)) dX12_settle_408 ?_
    refine lv_iload_n hx hb dX12_settle_411 rfl (lv_at hl 2 rfl) ?_
    obtain ⟨h_51, hF⟩ := grd_some hF
    refine va_iald (D := D.1) (f := gIA q_37 47) hx hb X.1 X.2.1 29 28 rfl rfl (inB_ok h_51) dX12_settle_412 ?_
    obtain ⟨h_52, hF⟩ := grd_some hF
    refine va_iast (D := D.1) (f := gIA q_37 73) hx hb X.1 X.2.1 X.2.2.1 X.2.2.2.1 48 47 rfl rfl (inB_ok h_52) dX12_settle_413 (fun H locs hP hD hS => ?_)
    have X : Hx D (tX12 yT) A s H locs (wX12 hT aT yT (sIA (sIA (sIA (sIA (sIA (sIA (sIA q_37 67 (upd (gIA q_37 67) v3.toNatClampNeg (gIA q_37 38 v3.toNatClampNeg))) 68 (upd (gIA q_37 68) v3.toNatClampNeg (vp_nar .boolean (gIA q_37 39 v3.toNatClampNeg)))) 69 (upd (gIA q_37 69) v3.toNatClampNeg ((gIA q_37 40 v3.toNatClampNeg) - (2000 : Int32)))) 70 (upd (gIA q_37 70) v3.toNatClampNeg ((gIA q_37 41 v3.toNatClampNeg) - (2000 : Int32)))) 71 (upd (gIA q_37 71) v3.toNatClampNeg ((gIA q_37 42 v3.toNatClampNeg) - (2000 : Int32)))) 72 (upd (gIA q_37 72) v3.toNatClampNeg (gIA q_37 46 v3.toNatClampNeg))) 73 (upd (gIA q_37 73) v3.toNatClampNeg (gIA q_37 47 v3.toNatClampNeg)))) := Hx_set X (wG_sIA (i := 47) (k := 73) ndX12 rfl rfl) hP hD hS
    exact (k_X12_settle_414 l D hT aT yT n rec IH) C X (lv_sub hl [0, 1, 2] rfl) hF
  · replace hF := iT c hF
    refine lv_goto (tgt := 414) hx hb dX12_settle_284 (by decide) ?_
    exact (k_X12_settle_414 l D hT aT yT n rec IH) C X (lv_sub hl [0, 1, 2] rfl) hF
set_option maxHeartbeats 4000000 in
set_option maxRecDepth 100000 in
theorem k_X12_settle_247 (l : Launch) (D : Dx) (hT : Nat) (aT : Nat → Nat) (yT : Nat → ClassId) (n : Nat) (rec : (Gs → Int32 → Int32 → Option (Gs)) × (Gs → Int32 → Int32 → Option (Gs)) × (Gs → Int32 → Option (Gs)) × (Gs → Int32 → Option (Gs)) × (Gs → Int32 → Option (Gs)) × (Gs → Int32 → Option (Gs)) × (Gs → Int32 → Int32 → Option (Gs)) × (Gs → Int32 → Int32 → Option (Gs))) (IH : SH_X12_settle l D hT aT yT rec) : S_X12_settle_247 l D hT aT yT (b_X12_settle_247 n rec) := by
  intro p e s m args below meth c H locs A ls gT v2 v3 q C X hl hF
  obtain ⟨hx, hb, hr, hml, hown, hts, hlk⟩ := id C
  unfold b_X12_settle_247 at hF
  refine lv_aload_n hx hb dX12_settle_247 rfl (lv_at hl 0 rfl) ?_
  refine va_get (D := D.1) (ci := 12) (v := .ref (aT 76)) (C := RX12) (T := TX12) (N := 114) hx hb hts wi_X12 hown X.1 X.2.1 0 rfl rfl 76 (by decide) (hts _ q7_30) (fun _ h9 => h9) (fl_get (by decide)) dX12_settle_248 ?_
  refine lv_aload_n hx hb dX12_settle_251 rfl (lv_at hl 0 rfl) ?_
  refine va_get (D := D.1) (ci := 12) (v := .int (gI gT 77)) (C := RX12) (T := TX12) (N := 114) hx hb hts wi_X12 hown X.1 X.2.1 0 rfl rfl 77 (by decide) (hts _ q7_31) (fun _ h9 => h9) (fl_get (by decide)) dX12_settle_252 ?_
  refine lv_bipush (v := (100 : Int32)) hx hb dX12_settle_255 (by decide) ?_
  refine lv_iload_n hx hb dX12_settle_257 rfl (lv_at hl 1 rfl) ?_
  refine lv_iadd hx hb dX12_settle_258 ?_
  obtain ⟨h_53, hF⟩ := grd_some hF
  refine va_iast (D := D.1) (f := gIA gT 76) hx hb X.1 X.2.1 X.2.2.1 X.2.2.2.1 51 50 rfl rfl (inB_ok h_53) dX12_settle_259 (fun H locs hP hD hS => ?_)
  have X : Hx D (tX12 yT) A s H locs (wX12 hT aT yT (sIA gT 76 (upd (gIA gT 76) (gI gT 77).toNatClampNeg ((100 : Int32) + v2)))) := Hx_set X (wG_sIA (i := 50) (k := 76) ndX12 rfl rfl) hP hD hS
  refine lv_aload_n hx hb dX12_settle_260 rfl (lv_at hl 0 rfl) ?_
  refine lv_dup hx hb dX12_settle_261 rfl ?_
  refine va_get (D := D.1) (ci := 12) (v := .int (gI gT 77)) (C := RX12) (T := TX12) (N := 114) hx hb hts wi_X12 hown X.1 X.2.1 0 rfl rfl 77 (by decide) (hts _ q7_31) (fun _ h9 => h9) (fl_get (by decide)) dX12_settle_262 ?_
  refine lv_iconst (v := (1 : Int32)) hx hb dX12_settle_265 (by decide) ?_
  refine lv_iadd hx hb dX12_settle_266 ?_
  refine va_put (D := D.1) (ci := 12) (v := .int ((gI gT 77) + (1 : Int32))) (ty := .int) (C := RX12) (T := TX12) (N := 114) hx hb hts wi_X12 tyX12 tyX12_ok nmX12 hown X.1 X.2.1 X.2.2.1 X.2.2.2.1 0 rfl rfl 77 (by decide) (hts _ q7_31) (fun _ h9 => h9) rfl (by decide +kernel) rfl rfl (by rw [List.length_map, List.length_range]; decide) dX12_settle_267 (fun H locs hP hD hS => ?_)
  have X : Hx D (tX12 yT) A s H locs (wX12 hT aT yT (sI (sIA gT 76 (upd (gIA gT 76) (gI gT 77).toNatClampNeg ((100 : Int32) + v2))) 77 ((gI gT 77) + (1 : Int32)))) := Hx_set X (wG_sI (k := 77) rfl) hP hD hS
  refine lv_iinc (v := v2 + (1 : Int32)) (lv' := [(2, .int (v2 + (1 : Int32))), (0, .ref hT), (3, .int v3)]) hx hb dX12_settle_270 hl (k := 1) rfl rfl (by decide) rfl (fun ls hl => ?_)
  refine lv_goto (tgt := 216) hx hb dX12_settle_273 (by decide) ?_
  exact IH.2.2.2.2.2.2.2 C X (lv_sub hl [1, 0, 2] rfl) hF
set_option maxHeartbeats 4000000 in
set_option maxRecDepth 100000 in
theorem k_X12_settle_216 (l : Launch) (D : Dx) (hT : Nat) (aT : Nat → Nat) (yT : Nat → ClassId) (n : Nat) (rec : (Gs → Int32 → Int32 → Option (Gs)) × (Gs → Int32 → Int32 → Option (Gs)) × (Gs → Int32 → Option (Gs)) × (Gs → Int32 → Option (Gs)) × (Gs → Int32 → Option (Gs)) × (Gs → Int32 → Option (Gs)) × (Gs → Int32 → Int32 → Option (Gs)) × (Gs → Int32 → Int32 → Option (Gs))) (IH : SH_X12_settle l D hT aT yT rec) : S_X12_settle_216 l D hT aT yT (h_X12_settle_216 n rec) := by
  intro p e s m args below meth c H locs A ls gT v2 v3 q C X hl hF
  obtain ⟨hx, hb, hr, hml, hown, hts, hlk⟩ := id C
  unfold h_X12_settle_216 at hF
  refine lv_iload_n hx hb dX12_settle_216 rfl (lv_at hl 1 rfl) ?_
  refine lv_aload_n hx hb dX12_settle_217 rfl (lv_at hl 0 rfl) ?_
  refine va_get (D := D.1) (ci := 12) (v := .int (gI gT 34)) (C := RX12) (T := TX12) (N := 114) hx hb hts wi_X12 hown X.1 X.2.1 0 rfl rfl 34 (by decide) (hts _ q6_228) (fun _ h9 => h9) (fl_get (by decide)) dX12_settle_218 ?_
  refine lv_icmp_ge (tgt := 276) hx hb dX12_settle_221 (by decide) (fun c => ?_) (fun c => ?_)
  · replace hF := iT c hF
    exact (k_X12_settle_276 l D hT aT yT n rec IH) C X (lv_sub hl [0, 1, 2] rfl) hF
  · replace hF := iF c hF
    refine lv_iload_n hx hb dX12_settle_224 rfl (lv_at hl 2 rfl) ?_
    refine lv_aload_n hx hb dX12_settle_225 rfl (lv_at hl 0 rfl) ?_
    refine va_get (D := D.1) (ci := 12) (v := .int (gI gT 60)) (C := RX12) (T := TX12) (N := 114) hx hb hts wi_X12 hown X.1 X.2.1 0 rfl rfl 60 (by decide) (hts _ q7_14) (fun _ h9 => h9) (fl_get (by decide)) dX12_settle_226 ?_
    refine lv_icmp_eq (tgt := 247) hx hb dX12_settle_229 (by decide) (fun c => ?_) (fun c => ?_)
    · replace hF := iT c hF
      exact (k_X12_settle_247 l D hT aT yT n rec IH) C X (lv_sub hl [0, 1, 2] rfl) hF
    · replace hF := iF c hF
      refine lv_aload_n hx hb dX12_settle_232 rfl (lv_at hl 0 rfl) ?_
      refine va_get (D := D.1) (ci := 12) (v := .ref (aT 52)) (C := RX12) (T := TX12) (N := 114) hx hb hts wi_X12 hown X.1 X.2.1 0 rfl rfl 52 (by decide) (hts _ q7_6) (fun _ h9 => h9) (fl_get (by decide)) dX12_settle_233 ?_
      refine lv_iload_n hx hb dX12_settle_236 rfl (lv_at hl 1 rfl) ?_
      obtain ⟨h_54, hF⟩ := grd_some hF
      refine va_iald (D := D.1) (f := gIA gT 52) hx hb X.1 X.2.1 34 33 rfl rfl (inB_ok h_54) dX12_settle_237 ?_
      refine lv_aload_n hx hb dX12_settle_238 rfl (lv_at hl 0 rfl) ?_
      refine va_get (D := D.1) (ci := 12) (v := .ref (aT 45)) (C := RX12) (T := TX12) (N := 114) hx hb hts wi_X12 hown X.1 X.2.1 0 rfl rfl 45 (by decide) (hts _ q6_239) (fun _ h9 => h9) (fl_get (by decide)) dX12_settle_239 ?_
      refine lv_iload_n hx hb dX12_settle_242 rfl (lv_at hl 2 rfl) ?_
      obtain ⟨h_55, hF⟩ := grd_some hF
      refine va_iald (D := D.1) (f := gIA gT 45) hx hb X.1 X.2.1 27 26 rfl rfl (inB_ok h_55) dX12_settle_243 ?_
      refine lv_icmp_ge (tgt := 276) hx hb dX12_settle_244 (by decide) (fun c => ?_) (fun c => ?_)
      · replace hF := iT c hF
        exact (k_X12_settle_276 l D hT aT yT n rec IH) C X (lv_sub hl [0, 1, 2] rfl) hF
      · replace hF := iF c hF
        exact (k_X12_settle_247 l D hT aT yT n rec IH) C X (lv_sub hl [0, 1, 2] rfl) hF
set_option maxHeartbeats 4000000 in
set_option maxRecDepth 100000 in
theorem k_X12_settle_208 (l : Launch) (D : Dx) (hT : Nat) (aT : Nat → Nat) (yT : Nat → ClassId) (n : Nat) (rec : (Gs → Int32 → Int32 → Option (Gs)) × (Gs → Int32 → Int32 → Option (Gs)) × (Gs → Int32 → Option (Gs)) × (Gs → Int32 → Option (Gs)) × (Gs → Int32 → Option (Gs)) × (Gs → Int32 → Option (Gs)) × (Gs → Int32 → Int32 → Option (Gs)) × (Gs → Int32 → Int32 → Option (Gs))) (IH : SH_X12_settle l D hT aT yT rec) : S_X12_settle_208 l D hT aT yT (h_X12_settle_208 n rec) := by
  intro p e s m args below meth c H locs A ls gT v2 v3 q C X hl hF
  obtain ⟨hx, hb, hr, hml, hown, hts, hlk⟩ := id C
  unfold h_X12_settle_208 at hF
  refine lv_iload_n hx hb dX12_settle_208 rfl (lv_at hl 2 rfl) ?_
  refine lv_aload_n hx hb dX12_settle_209 rfl (lv_at hl 0 rfl) ?_
  refine va_get (D := D.1) (ci := 12) (v := .int (gI gT 60)) (C := RX12) (T := TX12) (N := 114) hx hb hts wi_X12 hown X.1 X.2.1 0 rfl rfl 60 (by decide) (hts _ q7_14) (fun _ h9 => h9) (fl_get (by decide)) dX12_settle_210 ?_
  refine lv_icmp_gt (tgt := 420) hx hb dX12_settle_213 (by decide) (fun c => ?_) (fun c => ?_)
  · replace hF := iT c hF
    refine lv_iconst (v := (0 : Int32)) hx hb dX12_settle_420 (by decide) ?_
    refine lv_istore_n (lv' := [(3, .int (0 : Int32)), (0, .ref hT), (2, .int v2)]) hx hb dX12_settle_421 rfl hl (by decide) rfl (fun ls hl => ?_)
    exact IH.2.2.1 C X (lv_sub hl [1, 0] rfl) hF
  · replace hF := iF c hF
    exact IH.2.2.2.2.2.2.2 C X (lv_sub hl [0, 1, 2] rfl) hF
set_option maxHeartbeats 4000000 in
set_option maxRecDepth 100000 in
theorem k_X12_settle_114 (l : Launch) (D : Dx) (hT : Nat) (aT : Nat → Nat) (yT : Nat → ClassId) (n : Nat) (rec : (Gs → Int32 → Int32 → Option (Gs)) × (Gs → Int32 → Int32 → Option (Gs)) × (Gs → Int32 → Option (Gs)) × (Gs → Int32 → Option (Gs)) × (Gs → Int32 → Option (Gs)) × (Gs → Int32 → Option (Gs)) × (Gs → Int32 → Int32 → Option (Gs)) × (Gs → Int32 → Int32 → Option (Gs))) (IH : SH_X12_settle l D hT aT yT rec) : S_X12_settle_114 l D hT aT yT (b_X12_settle_114 n rec) := by
  intro p e s m args below meth c H locs A ls gT v1 v2 v3 s0 s1 q C X hl hF
  obtain ⟨hx, hb, hr, hml, hown, hts, hlk⟩ := id C
  unfold b_X12_settle_114 at hF
  obtain ⟨h_60, hF⟩ := grd_some hF
  refine va_iast (D := D.1) (f := gIA gT 15) hx hb X.1 X.2.1 X.2.2.1 X.2.2.2.1 10 9 rfl rfl (inB_ok h_60) dX12_settle_114 (fun H locs hP hD hS => ?_)
  have X : Hx D (tX12 yT) A s H locs (wX12 hT aT yT (sIA gT 15 (upd (gIA gT 15) s1.toNatClampNeg s0))) := Hx_set X (wG_sIA (i := 9) (k := 15) ndX12 rfl rfl) hP hD hS
  refine lv_aload_n hx hb dX12_settle_115 rfl (lv_at hl 0 rfl) ?_
  refine va_get (D := D.1) (ci := 12) (v := .ref (aT 16)) (C := RX12) (T := TX12) (N := 114) hx hb hts wi_X12 hown X.1 X.2.1 0 rfl rfl 16 (by decide) (hts _ q6_210) (fun _ h9 => h9) (fl_get (by decide)) dX12_settle_116 ?_
  refine lv_iload_n hx hb dX12_settle_119 rfl (lv_at hl 2 rfl) ?_
  refine lv_aload_n hx hb dX12_settle_120 rfl (lv_at hl 0 rfl) ?_
  refine va_get (D := D.1) (ci := 12) (v := .ref (aT 16)) (C := RX12) (T := TX12) (N := 114) hx hb hts wi_X12 hown X.1 X.2.1 0 rfl rfl 16 (by decide) (hts _ q6_210) (fun _ h9 => h9) (fl_get (by decide)) dX12_settle_121 ?_
  refine lv_iload_n hx hb dX12_settle_124 rfl (lv_at hl 3 rfl) ?_
  obtain ⟨h_61, hF⟩ := grd_some hF
  refine va_iald (D := D.1) (f := gIA gT 16) hx hb X.1 X.2.1 11 10 rfl rfl (inB_ok h_61) dX12_settle_125 ?_
  obtain ⟨h_62, hF⟩ := grd_some hF
  refine va_iast (D := D.1) (f := gIA gT 16) hx hb X.1 X.2.1 X.2.2.1 X.2.2.2.1 11 10 rfl rfl (inB_ok h_62) dX12_settle_126 (fun H locs hP hD hS => ?_)
  have X : Hx D (tX12 yT) A s H locs (wX12 hT aT yT (sIA (sIA gT 15 (upd (gIA gT 15) s1.toNatClampNeg s0)) 16 (upd (gIA gT 16) v2.toNatClampNeg (gIA gT 16 v3.toNatClampNeg)))) := Hx_set X (wG_sIA (i := 10) (k := 16) ndX12 rfl rfl) hP hD hS
  refine lv_aload_n hx hb dX12_settle_127 rfl (lv_at hl 0 rfl) ?_
  refine va_get (D := D.1) (ci := 12) (v := .ref (aT 17)) (C := RX12) (T := TX12) (N := 114) hx hb hts wi_X12 hown X.1 X.2.1 0 rfl rfl 17 (by decide) (hts _ q6_211) (fun _ h9 => h9) (fl_get (by decide)) dX12_settle_128 ?_
  refine lv_iload_n hx hb dX12_settle_131 rfl (lv_at hl 2 rfl) ?_
  refine lv_aload_n hx hb dX12_settle_132 rfl (lv_at hl 0 rfl) ?_
  refine va_get (D := D.1) (ci := 12) (v := .ref (aT 17)) (C := RX12) (T := TX12) (N := 114) hx hb hts wi_X12 hown X.1 X.2.1 0 rfl rfl 17 (by decide) (hts _ q6_211) (fun _ h9 => h9) (fl_get (by decide)) dX12_settle_133 ?_
  refine lv_iload_n hx hb dX12_settle_136 rfl (lv_at hl 3 rfl) ?_
  obtain ⟨h_63, hF⟩ := grd_some hF
  refine va_iald (D := D.1) (f := gIA gT 17) hx hb X.1 X.2.1 12 11 rfl rfl (inB_ok h_63) dX12_settle_137 ?_
  obtain ⟨h_64, hF⟩ := grd_some hF
  refine va_iast (D := D.1) (f := gIA gT 17) hx hb X.1 X.2.1 X.2.2.1 X.2.2.2.1 12 11 rfl rfl (inB_ok h_64) dX12_settle_138 (fun H locs hP hD hS => ?_)
  have X : Hx D (tX12 yT) A s H locs (wX12 hT aT yT (sIA (sIA (sIA gT 15 (upd (gIA gT 15) s1.toNatClampNeg s0)) 16 (upd (gIA gT 16) v2.toNatClampNeg (gIA gT 16 v3.toNatClampNeg))) 17 (upd (gIA gT 17) v2.toNatClampNeg (gIA gT 17 v3.toNatClampNeg)))) := Hx_set X (wG_sIA (i := 11) (k := 17) ndX12 rfl rfl) hP hD hS
  refine lv_aload_n hx hb dX12_settle_139 rfl (lv_at hl 0 rfl) ?_
  refine va_get (D := D.1) (ci := 12) (v := .ref (aT 18)) (C := RX12) (T := TX12) (N := 114) hx hb hts wi_X12 hown X.1 X.2.1 0 rfl rfl 18 (by decide) (hts _ q6_212) (fun _ h9 => h9) (fl_get (by decide)) dX12_settle_140 ?_
  refine lv_iload_n hx hb dX12_settle_143 rfl (lv_at hl 2 rfl) ?_
  refine lv_aload_n hx hb dX12_settle_144 rfl (lv_at hl 0 rfl) ?_
  refine va_get (D := D.1) (ci := 12) (v := .ref (aT 18)) (C := RX12) (T := TX12) (N := 114) hx hb hts wi_X12 hown X.1 X.2.1 0 rfl rfl 18 (by decide) (hts _ q6_212) (fun _ h9 => h9) (fl_get (by decide)) dX12_settle_145 ?_
  refine lv_iload_n hx hb dX12_settle_148 rfl (lv_at hl 3 rfl) ?_
  obtain ⟨h_65, hF⟩ := grd_some hF
  refine va_lald (D := D.1) (f := gLA gT 18) hx hb X.1 X.2.1 13 12 rfl rfl (inB_ok h_65) dX12_settle_149 ?_
  obtain ⟨h_66, hF⟩ := grd_some hF
  refine va_last (D := D.1) (f := gLA gT 18) hx hb X.1 X.2.1 X.2.2.1 X.2.2.2.1 13 12 rfl rfl (inB_ok h_66) dX12_settle_150 (fun H locs hP hD hS => ?_)
  have X : Hx D (tX12 yT) A s H locs (wX12 hT aT yT (sLA (sIA (sIA (sIA gT 15 (upd (gIA gT 15) s1.toNatClampNeg s0)) 16 (upd (gIA gT 16) v2.toNatClampNeg (gIA gT 16 v3.toNatClampNeg))) 17 (upd (gIA gT 17) v2.toNatClampNeg (gIA gT 17 v3.toNatClampNeg))) 18 (vp_updL (gLA gT 18) v2.toNatClampNeg (gLA gT 18 v3.toNatClampNeg)))) := Hx_set X (wG_sLA (i := 12) (k := 18) ndX12 rfl rfl) hP hD hS
  refine lv_iinc (v := v2 + (1 : Int32)) (lv' := [(2, .int (v2 + (1 : Int32))), (0, .ref hT), (1, .int v1), (3, .int v3)]) hx hb dX12_settle_151 hl (k := 2) rfl rfl (by decide) rfl (fun ls hl => ?_)
  refine lv_goto (tgt := 11) hx hb dX12_settle_154 (by decide) ?_
  exact IH.1 C X (lv_sub hl [1, 2, 0] rfl) hF
set_option maxHeartbeats 4000000 in
set_option maxRecDepth 100000 in
theorem k_X12_settle_71 (l : Launch) (D : Dx) (hT : Nat) (aT : Nat → Nat) (yT : Nat → ClassId) (n : Nat) (rec : (Gs → Int32 → Int32 → Option (Gs)) × (Gs → Int32 → Int32 → Option (Gs)) × (Gs → Int32 → Option (Gs)) × (Gs → Int32 → Option (Gs)) × (Gs → Int32 → Option (Gs)) × (Gs → Int32 → Option (Gs)) × (Gs → Int32 → Int32 → Option (Gs)) × (Gs → Int32 → Int32 → Option (Gs))) (IH : SH_X12_settle l D hT aT yT rec) : S_X12_settle_71 l D hT aT yT (b_X12_settle_71 n rec) := by
  intro p e s m args below meth c H locs A ls gT v1 v2 v3 s0 q C X hl hF
  obtain ⟨hx, hb, hr, hml, hown, hts, hlk⟩ := id C
  unfold b_X12_settle_71 at hF
  refine lv_istore (lv' := [(4, .int s0), (0, .ref hT), (1, .int v1), (2, .int v2), (3, .int v3)]) hx hb dX12_settle_71 hl (by decide) rfl (fun ls hl => ?_)
  refine lv_aload_n hx hb dX12_settle_73 rfl (lv_at hl 1 rfl) ?_
  refine va_get (D := D.1) (ci := 12) (v := .ref (aT 14)) (C := RX12) (T := TX12) (N := 114) hx hb hts wi_X12 hown X.1 X.2.1 0 rfl rfl 14 (by decide) (hts _ q6_208) (fun _ h9 => h9) (fl_get (by decide)) dX12_settle_74 ?_
  refine lv_iload_n hx hb dX12_settle_77 rfl (lv_at hl 3 rfl) ?_
  refine lv_aload_n hx hb dX12_settle_78 rfl (lv_at hl 1 rfl) ?_
  refine va_get (D := D.1) (ci := 12) (v := .ref (aT 14)) (C := RX12) (T := TX12) (N := 114) hx hb hts wi_X12 hown X.1 X.2.1 0 rfl rfl 14 (by decide) (hts _ q6_208) (fun _ h9 => h9) (fl_get (by decide)) dX12_settle_79 ?_
  refine lv_iload_n hx hb dX12_settle_82 rfl (lv_at hl 4 rfl) ?_
  obtain ⟨h_57, hF⟩ := grd_some hF
  refine va_iald (D := D.1) (f := gIA gT 14) hx hb X.1 X.2.1 9 8 rfl rfl (inB_ok h_57) dX12_settle_83 ?_
  obtain ⟨h_58, hF⟩ := grd_some hF
  refine va_iast (D := D.1) (f := gIA gT 14) hx hb X.1 X.2.1 X.2.2.1 X.2.2.2.1 9 8 rfl rfl (inB_ok h_58) dX12_settle_84 (fun H locs hP hD hS => ?_)
  have X : Hx D (tX12 yT) A s H locs (wX12 hT aT yT (sIA gT 14 (upd (gIA gT 14) v2.toNatClampNeg (gIA gT 14 v3.toNatClampNeg)))) := Hx_set X (wG_sIA (i := 8) (k := 14) ndX12 rfl rfl) hP hD hS
  refine lv_aload_n hx hb dX12_settle_85 rfl (lv_at hl 1 rfl) ?_
  refine va_get (D := D.1) (ci := 12) (v := .ref (aT 15)) (C := RX12) (T := TX12) (N := 114) hx hb hts wi_X12 hown X.1 X.2.1 0 rfl rfl 15 (by decide) (hts _ q6_209) (fun _ h9 => h9) (fl_get (by decide)) dX12_settle_86 ?_
  refine lv_iload_n hx hb dX12_settle_89 rfl (lv_at hl 3 rfl) ?_
  refine lv_iload hx hb dX12_settle_90 (lv_at hl 0 rfl) ?_
  refine lv_if_eq (tgt := 108) hx hb dX12_settle_92 (by decide) (fun c => ?_) (fun c => ?_)
  · replace hF := iT c hF
    refine lv_aload_n hx hb dX12_settle_108 rfl (lv_at hl 1 rfl) ?_
    refine va_get (D := D.1) (ci := 12) (v := .ref (aT 15)) (C := RX12) (T := TX12) (N := 114) hx hb hts wi_X12 hown X.1 X.2.1 0 rfl rfl 15 (by decide) (hts _ q6_209) (fun _ h9 => h9) (fl_get (by decide)) dX12_settle_109 ?_
    refine lv_iload_n hx hb dX12_settle_112 rfl (lv_at hl 4 rfl) ?_
    obtain ⟨h_59, hF⟩ := grd_some hF
    refine va_iald (D := D.1) (f := gIA gT 15) hx hb X.1 X.2.1 10 9 rfl rfl (inB_ok h_59) dX12_settle_113 ?_
    exact (k_X12_settle_114 l D hT aT yT n rec IH) C X (lv_sub hl [1, 2, 3, 4] rfl) hF
  · replace hF := iF c hF
    refine lv_aload_n hx hb dX12_settle_95 rfl (lv_at hl 1 rfl) ?_
    refine va_get (D := D.1) (ci := 12) (v := .ref (aT 15)) (C := RX12) (T := TX12) (N := 114) hx hb hts wi_X12 hown X.1 X.2.1 0 rfl rfl 15 (by decide) (hts _ q6_209) (fun _ h9 => h9) (fl_get (by decide)) dX12_settle_96 ?_
    refine lv_iload_n hx hb dX12_settle_99 rfl (lv_at hl 4 rfl) ?_
    obtain ⟨h_67, hF⟩ := grd_some hF
    refine va_iald (D := D.1) (f := gIA gT 15) hx hb X.1 X.2.1 10 9 rfl rfl (inB_ok h_67) dX12_settle_100 ?_
    refine lv_sipush (v := (2000 : Int32)) hx hb dX12_settle_101 (by decide) ?_
    refine lv_isub hx hb dX12_settle_104 ?_
    refine lv_goto (tgt := 114) hx hb dX12_settle_105 (by decide) ?_
    exact (k_X12_settle_114 l D hT aT yT n rec IH) C X (lv_sub hl [1, 2, 3, 4] rfl) hF
set_option maxHeartbeats 4000000 in
set_option maxRecDepth 100000 in
theorem k_X12_settle_66 (l : Launch) (D : Dx) (hT : Nat) (aT : Nat → Nat) (yT : Nat → ClassId) (n : Nat) (rec : (Gs → Int32 → Int32 → Option (Gs)) × (Gs → Int32 → Int32 → Option (Gs)) × (Gs → Int32 → Option (Gs)) × (Gs → Int32 → Option (Gs)) × (Gs → Int32 → Option (Gs)) × (Gs → Int32 → Option (Gs)) × (Gs → Int32 → Int32 → Option (Gs)) × (Gs → Int32 → Int32 → Option (Gs))) (IH : SH_X12_settle l D hT aT yT rec) : S_X12_settle_66 l D hT aT yT (b_X12_settle_66 n rec) := by
  intro p e s m args below meth c H locs A ls gT v1 v2 v3 q C X hl hF
  obtain ⟨hx, hb, hr, hml, hown, hts, hlk⟩ := id C
  unfold b_X12_settle_66 at hF
  refine lv_iconst (v := (1 : Int32)) hx hb dX12_settle_66 (by decide) ?_
  refine lv_goto (tgt := 71) hx hb dX12_settle_67 (by decide) ?_
  exact (k_X12_settle_71 l D hT aT yT n rec IH) C X (lv_sub hl [0, 1, 2, 3] rfl) hF
set_option maxHeartbeats 4000000 in
set_option maxRecDepth 100000 in
theorem k_X12_settle_11 (l : Launch) (D : Dx) (hT : Nat) (aT : Nat → Nat) (yT : Nat → ClassId) (n : Nat) (rec : (Gs → Int32 → Int32 → Option (Gs)) × (Gs → Int32 → Int32 → Option (Gs)) × (Gs → Int32 → Option (Gs)) × (Gs → Int32 → Option (Gs)) × (Gs → Int32 → Option (Gs)) × (Gs → Int32 → Option (Gs)) × (Gs → Int32 → Int32 → Option (Gs)) × (Gs → Int32 → Int32 → Option (Gs))) (IH : SH_X12_settle l D hT aT yT rec) : S_X12_settle_11 l D hT aT yT (h_X12_settle_11 n rec) := by
  intro p e s m args below meth c H locs A ls gT v1 v2 q C X hl hF
  obtain ⟨hx, hb, hr, hml, hown, hts, hlk⟩ := id C
  unfold h_X12_settle_11 at hF
  refine lv_iload_n hx hb dX12_settle_11 rfl (lv_at hl 2 rfl) ?_
  refine lv_iload_n hx hb dX12_settle_12 rfl (lv_at hl 1 rfl) ?_
  refine lv_icmp_ge (tgt := 157) hx hb dX12_settle_13 (by decide) (fun c => ?_) (fun c => ?_)
  · replace hF := iT c hF
    refine lv_aload_n hx hb dX12_settle_157 rfl (lv_at hl 0 rfl) ?_
    refine lv_aload_n hx hb dX12_settle_158 rfl (lv_at hl 0 rfl) ?_
    refine va_get (D := D.1) (ci := 12) (v := .int (gI gT 33)) (C := RX12) (T := TX12) (N := 114) hx hb hts wi_X12 hown X.1 X.2.1 0 rfl rfl 33 (by decide) (hts _ q6_227) (fun _ h9 => h9) (fl_get (by decide)) dX12_settle_159 ?_
    refine va_put (D := D.1) (ci := 12) (v := .int (gI gT 33)) (ty := .int) (C := RX12) (T := TX12) (N := 114) hx hb hts wi_X12 tyX12 tyX12_ok nmX12 hown X.1 X.2.1 X.2.2.1 X.2.2.2.1 0 rfl rfl 60 (by decide) (hts _ q7_14) (fun _ h9 => h9) rfl (by decide +kernel) rfl rfl (by rw [List.length_map, List.length_range]; decide) dX12_settle_162 (fun H locs hP hD hS => ?_)
    have X : Hx D (tX12 yT) A s H locs (wX12 hT aT yT (sI gT 60 (gI gT 33))) := Hx_set X (wG_sI (k := 60) rfl) hP hD hS
    refine lv_aload_n hx hb dX12_settle_165 rfl (lv_at hl 0 rfl) ?_
    refine lv_aload_n hx hb dX12_settle_166 rfl (lv_at hl 0 rfl) ?_
    refine va_get (D := D.1) (ci := 12) (v := .int (gI gT 34)) (C := RX12) (T := TX12) (N := 114) hx hb hts wi_X12 hown X.1 X.2.1 0 rfl rfl 34 (by decide) (hts _ q6_228) (fun _ h9 => h9) (fl_get (by decide)) dX12_settle_167 ?_
    refine va_put (D := D.1) (ci := 12) (v := .int (gI gT 34)) (ty := .int) (C := RX12) (T := TX12) (N := 114) hx hb hts wi_X12 tyX12 tyX12_ok nmX12 hown X.1 X.2.1 X.2.2.1 X.2.2.2.1 0 rfl rfl 61 (by decide) (hts _ q7_15) (fun _ h9 => h9) rfl (by decide +kernel) rfl rfl (by rw [List.length_map, List.length_range]; decide) dX12_settle_170 (fun H locs hP hD hS => ?_)
    have X : Hx D (tX12 yT) A s H locs (wX12 hT aT yT (sI (sI gT 60 (gI gT 33)) 61 (gI gT 34))) := Hx_set X (wG_sI (k := 61) rfl) hP hD hS
    refine lv_aload_n hx hb dX12_settle_173 rfl (lv_at hl 0 rfl) ?_
    refine lv_aload_n hx hb dX12_settle_174 rfl (lv_at hl 0 rfl) ?_
    refine va_get (D := D.1) (ci := 12) (v := .int (gI gT 35)) (C := RX12) (T := TX12) (N := 114) hx hb hts wi_X12 hown X.1 X.2.1 0 rfl rfl 35 (by decide) (hts _ q6_229) (fun _ h9 => h9) (fl_get (by decide)) dX12_settle_175 ?_
    refine va_put (D := D.1) (ci := 12) (v := .int (gI gT 35)) (ty := .int) (C := RX12) (T := TX12) (N := 114) hx hb hts wi_X12 tyX12 tyX12_ok nmX12 hown X.1 X.2.1 X.2.2.1 X.2.2.2.1 0 rfl rfl 62 (by decide) (hts _ q7_16) (fun _ h9 => h9) rfl (by decide +kernel) rfl rfl (by rw [List.length_map, List.length_range]; decide) dX12_settle_178 (fun H locs hP hD hS => ?_)
    have X : Hx D (tX12 yT) A s H locs (wX12 hT aT yT (sI (sI (sI gT 60 (gI gT 33)) 61 (gI gT 34)) 62 (gI gT 35))) := Hx_set X (wG_sI (k := 62) rfl) hP hD hS
    refine lv_aload_n hx hb dX12_settle_181 rfl (lv_at hl 0 rfl) ?_
    refine lv_aload_n hx hb dX12_settle_182 rfl (lv_at hl 0 rfl) ?_
    refine va_get (D := D.1) (ci := 12) (v := .int (gI gT 24)) (C := RX12) (T := TX12) (N := 114) hx hb hts wi_X12 hown X.1 X.2.1 0 rfl rfl 24 (by decide) (hts _ q6_218) (fun _ h9 => h9) (fl_get (by decide)) dX12_settle_183 ?_
    refine va_put (D := D.1) (ci := 12) (v := .int (gI gT 24)) (ty := .int) (C := RX12) (T := TX12) (N := 114) hx hb hts wi_X12 tyX12 tyX12_ok nmX12 hown X.1 X.2.1 X.2.2.1 X.2.2.2.1 0 rfl rfl 63 (by decide) (hts _ q7_17) (fun _ h9 => h9) rfl (by decide +kernel) rfl rfl (by rw [List.length_map, List.length_range]; decide) dX12_settle_186 (fun H locs hP hD hS => ?_)
    have X : Hx D (tX12 yT) A s H locs (wX12 hT aT yT (sI (sI (sI (sI gT 60 (gI gT 33)) 61 (gI gT 34)) 62 (gI gT 35)) 63 (gI gT 24))) := Hx_set X (wG_sI (k := 63) rfl) hP hD hS
    refine lv_aload_n hx hb dX12_settle_189 rfl (lv_at hl 0 rfl) ?_
    refine lv_dup hx hb dX12_settle_190 rfl ?_
    refine va_get (D := D.1) (ci := 12) (v := .int (gI gT 64)) (C := RX12) (T := TX12) (N := 114) hx hb hts wi_X12 hown X.1 X.2.1 0 rfl rfl 64 (by decide) (hts _ q7_18) (fun _ h9 => h9) (fl_get (by decide)) dX12_settle_191 ?_
    refine lv_iconst (v := (1 : Int32)) hx hb dX12_settle_194 (by decide) ?_
    refine lv_iadd hx hb dX12_settle_195 ?_
    refine va_put (D := D.1) (ci := 12) (v := .int ((gI gT 64) + (1 : Int32))) (ty := .int) (C := RX12) (T := TX12) (N := 114) hx hb hts wi_X12 tyX12 tyX12_ok nmX12 hown X.1 X.2.1 X.2.2.1 X.2.2.2.1 0 rfl rfl 64 (by decide) (hts _ q7_18) (fun _ h9 => h9) rfl (by decide +kernel) rfl rfl (by rw [List.length_map, List.length_range]; decide) dX12_settle_196 (fun H locs hP hD hS => ?_)
    have X : Hx D (tX12 yT) A s H locs (wX12 hT aT yT (sI (sI (sI (sI (sI gT 60 (gI gT 33)) 61 (gI gT 34)) 62 (gI gT 35)) 63 (gI gT 24)) 64 ((gI gT 64) + (1 : Int32)))) := Hx_set X (wG_sI (k := 64) rfl) hP hD hS
    refine lv_aload_n hx hb dX12_settle_199 rfl (lv_at hl 0 rfl) ?_
    refine lv_iconst (v := (0 : Int32)) hx hb dX12_settle_200 (by decide) ?_
    refine va_put (D := D.1) (ci := 12) (v := .int (0 : Int32)) (ty := .int) (C := RX12) (T := TX12) (N := 114) hx hb hts wi_X12 tyX12 tyX12_ok nmX12 hown X.1 X.2.1 X.2.2.1 X.2.2.2.1 0 rfl rfl 77 (by decide) (hts _ q7_31) (fun _ h9 => h9) rfl (by decide +kernel) rfl rfl (by rw [List.length_map, List.length_range]; decide) dX12_settle_201 (fun H locs hP hD hS => ?_)
    have X : Hx D (tX12 yT) A s H locs (wX12 hT aT yT (sI (sI (sI (sI (sI (sI gT 60 (gI gT 33)) 61 (gI gT 34)) 62 (gI gT 35)) 63 (gI gT 24)) 64 ((gI gT 64) + (1 : Int32))) 77 (0 : Int32))) := Hx_set X (wG_sI (k := 77) rfl) hP hD hS
    refine lv_iconst (v := (0 : Int32)) hx hb dX12_settle_204 (by decide) ?_
    refine lv_istore_n (lv' := [(2, .int (0 : Int32)), (0, .ref hT), (1, .int v1)]) hx hb dX12_settle_205 rfl hl (by decide) rfl (fun ls hl => ?_)
    refine lv_iconst (v := (0 : Int32)) hx hb dX12_settle_206 (by decide) ?_
    refine lv_istore_n (lv' := [(3, .int (0 : Int32)), (2, .int (0 : Int32)), (0, .ref hT), (1, .int v1)]) hx hb dX12_settle_207 rfl hl (by decide) rfl (fun ls hl => ?_)
    exact IH.2.1 C X (lv_sub hl [2, 1, 0] rfl) hF
  · replace hF := iF c hF
    refine lv_sipush (v := (2000 : Int32)) hx hb dX12_settle_16 (by decide) ?_
    refine lv_iload_n hx hb dX12_settle_19 rfl (lv_at hl 2 rfl) ?_
    refine lv_iadd hx hb dX12_settle_20 ?_
    refine lv_istore_n (lv' := [(3, .int ((2000 : Int32) + v2)), (0, .ref hT), (1, .int v1), (2, .int v2)]) hx hb dX12_settle_21 rfl hl (by decide) rfl (fun ls hl => ?_)
    refine lv_aload_n hx hb dX12_settle_22 rfl (lv_at hl 1 rfl) ?_
    refine va_get (D := D.1) (ci := 12) (v := .ref (aT 14)) (C := RX12) (T := TX12) (N := 114) hx hb hts wi_X12 hown X.1 X.2.1 0 rfl rfl 14 (by decide) (hts _ q6_208) (fun _ h9 => h9) (fl_get (by decide)) dX12_settle_23 ?_
    refine lv_iload_n hx hb dX12_settle_26 rfl (lv_at hl 0 rfl) ?_
    obtain ⟨h_56, hF⟩ := grd_some hF
    refine va_iald (D := D.1) (f := gIA gT 14) hx hb X.1 X.2.1 9 8 rfl rfl (inB_ok h_56) dX12_settle_27 ?_
    refine lv_bipush (v := (13 : Int32)) hx hb dX12_settle_28 (by decide) ?_
    refine lv_icmp_eq (tgt := 66) hx hb dX12_settle_30 (by decide) (fun c => ?_) (fun c => ?_)
    · replace hF := iT c hF
      exact (k_X12_settle_66 l D hT aT yT n rec IH) C X (lv_sub hl [1, 2, 3, 0] rfl) hF
    · replace hF := iF c hF
      refine lv_aload_n hx hb dX12_settle_33 rfl (lv_at hl 1 rfl) ?_
      refine va_get (D := D.1) (ci := 12) (v := .ref (aT 14)) (C := RX12) (T := TX12) (N := 114) hx hb hts wi_X12 hown X.1 X.2.1 0 rfl rfl 14 (by decide) (hts _ q6_208) (fun _ h9 => h9) (fl_get (by decide)) dX12_settle_34 ?_
      refine lv_iload_n hx hb dX12_settle_37 rfl (lv_at hl 0 rfl) ?_
      obtain ⟨h_68, hF⟩ := grd_some hF
      refine va_iald (D := D.1) (f := gIA gT 14) hx hb X.1 X.2.1 9 8 rfl rfl (inB_ok h_68) dX12_settle_38 ?_
      refine lv_bipush (v := (15 : Int32)) hx hb dX12_settle_39 (by decide) ?_
      refine lv_icmp_eq (tgt := 66) hx hb dX12_settle_41 (by decide) (fun c => ?_) (fun c => ?_)
      · replace hF := iT c hF
        exact (k_X12_settle_66 l D hT aT yT n rec IH) C X (lv_sub hl [1, 2, 3, 0] rfl) hF
      · replace hF := iF c hF
        refine lv_aload_n hx hb dX12_settle_44 rfl (lv_at hl 1 rfl) ?_
        refine va_get (D := D.1) (ci := 12) (v := .ref (aT 14)) (C := RX12) (T := TX12) (N := 114) hx hb hts wi_X12 hown X.1 X.2.1 0 rfl rfl 14 (by decide) (hts _ q6_208) (fun _ h9 => h9) (fl_get (by decide)) dX12_settle_45 ?_
        refine lv_iload_n hx hb dX12_settle_48 rfl (lv_at hl 0 rfl) ?_
        obtain ⟨h_69, hF⟩ := grd_some hF
        refine va_iald (D := D.1) (f := gIA gT 14) hx hb X.1 X.2.1 9 8 rfl rfl (inB_ok h_69) dX12_settle_49 ?_
        refine lv_bipush (v := (17 : Int32)) hx hb dX12_settle_50 (by decide) ?_
        refine lv_icmp_eq (tgt := 66) hx hb dX12_settle_52 (by decide) (fun c => ?_) (fun c => ?_)
        · replace hF := iT c hF
          exact (k_X12_settle_66 l D hT aT yT n rec IH) C X (lv_sub hl [1, 2, 3, 0] rfl) hF
        · replace hF := iF c hF
          refine lv_aload_n hx hb dX12_settle_55 rfl (lv_at hl 1 rfl) ?_
          refine va_get (D := D.1) (ci := 12) (v := .ref (aT 14)) (C := RX12) (T := TX12) (N := 114) hx hb hts wi_X12 hown X.1 X.2.1 0 rfl rfl 14 (by decide) (hts _ q6_208) (fun _ h9 => h9) (fl_get (by decide)) dX12_settle_56 ?_
          refine lv_iload_n hx hb dX12_settle_59 rfl (lv_at hl 0 rfl) ?_
          obtain ⟨h_70, hF⟩ := grd_some hF
          refine va_iald (D := D.1) (f := gIA gT 14) hx hb X.1 X.2.1 9 8 rfl rfl (inB_ok h_70) dX12_settle_60 ?_
          refine lv_bipush (v := (18 : Int32)) hx hb dX12_settle_61 (by decide) ?_
          refine lv_icmp_ne (tgt := 70) hx hb dX12_settle_63 (by decide) (fun c => ?_) (fun c => ?_)
          · replace hF := iF c hF
            refine lv_iconst (v := (0 : Int32)) hx hb dX12_settle_70 (by decide) ?_
            exact (k_X12_settle_71 l D hT aT yT n rec IH) C X (lv_sub hl [1, 2, 3, 0] rfl) hF
          · replace hF := iT c hF
            exact (k_X12_settle_66 l D hT aT yT n rec IH) C X (lv_sub hl [1, 2, 3, 0] rfl) hF
theorem kL_X12_settle (l : Launch) (D : Dx) (hT : Nat) (aT : Nat → Nat) (yT : Nat → ClassId) (n : Nat) : ∀ k, SH_X12_settle l D hT aT yT (L_X12_settle n k)
  | 0 => ⟨(fun _ _ _ h => by cases h), (fun _ _ _ h => by cases h), (fun _ _ _ h => by cases h), (fun _ _ _ h => by cases h), (fun _ _ _ h => by cases h), (fun _ _ _ h => by cases h), (fun _ _ _ h => by cases h), (fun _ _ _ h => by cases h)⟩
  | k + 1 => ⟨k_X12_settle_11 l D hT aT yT n _ (kL_X12_settle l D hT aT yT n k), k_X12_settle_208 l D hT aT yT n _ (kL_X12_settle l D hT aT yT n k), k_X12_settle_422 l D hT aT yT n _ (kL_X12_settle l D hT aT yT n k), k_X12_settle_491 l D hT aT yT n _ (kL_X12_settle l D hT aT yT n k), k_X12_settle_589 l D hT aT yT n _ (kL_X12_settle l D hT aT yT n k), k_X12_settle_624 l D hT aT yT n _ (kL_X12_settle l D hT aT yT n k), k_X12_settle_528 l D hT aT yT n _ (kL_X12_settle l D hT aT yT n k), k_X12_settle_216 l D hT aT yT n _ (kL_X12_settle l D hT aT yT n k)⟩
set_option maxHeartbeats 4000000 in
set_option maxRecDepth 100000 in
theorem c_X12_settle (l : Launch) (D : Dx) (hT : Nat) (aT : Nat → Nat) (yT : Nat → ClassId) (n : Nat) (gT : Gs) (q : Gs) (hF : f_X12_settle n gT = some q) (sz : Nat) : Met l yX12_settle (ws_ yX12_settle cX12_settle 5 none) R_X12_settle (PC D (tX12 yT) [.ref hT] (wX12 hT aT yT gT) sz) (QV D (va_A (wX12 hT aT yT gT) sz) (wX12 hT aT yT q)) 0 0 (va_A (wX12 hT aT yT gT) sz) := by
  refine Met.ofW (cc := cX12_settle) (maxL := 5) (ret := none) (by decide) rfl ?_
  intro p e s m args below meth c s₁ B hml hv
  obtain ⟨rfl, hsz, hP, hK, hD, hN⟩ := hv
  subst hsz
  have C : Cx p s m _ meth c cX12_settle none 5 RX12 lw_all := Cx_of B hml
  have X := Hx_start hP hK hD hN
  obtain ⟨hx, hb, hr, -, hown, hts, hlk⟩ := id C
  generalize va_A (wX12 hT aT yT gT) s.heap.size = A at X ⊢
  have hl := lv_entry ([.ref hT]) (n := 5) (Nat.le_of_ble_eq_true rfl)
  rw [lg_entry_eq]
  generalize (lg_sl ([.ref hT]) ++ List.replicate (5 - (lg_sl ([.ref hT])).length) Slot.unset).toArray = ls at hl ⊢
  have hl : lv_has ls 5 [(0, .ref hT)] := hl
  unfold f_X12_settle at hF
  refine lv_aload_n hx hb dX12_settle_0 rfl (lv_at hl 0 rfl) ?_
  refine va_get (D := D.1) (ci := 12) (v := .int (gI gT 19)) (C := RX12) (T := TX12) (N := 114) hx hb hts wi_X12 hown X.1 X.2.1 0 rfl rfl 19 (by decide) (hts _ q6_213) (fun _ h9 => h9) (fl_get (by decide)) dX12_settle_1 ?_
  refine lv_sipush (v := (2000 : Int32)) hx hb dX12_settle_4 (by decide) ?_
  refine lv_isub hx hb dX12_settle_7 ?_
  refine lv_istore_n (lv' := [(1, .int ((gI gT 19) - (2000 : Int32))), (0, .ref hT)]) hx hb dX12_settle_8 rfl hl (by decide) rfl (fun ls hl => ?_)
  refine lv_iconst (v := (0 : Int32)) hx hb dX12_settle_9 (by decide) ?_
  refine lv_istore_n (lv' := [(2, .int (0 : Int32)), (1, .int ((gI gT 19) - (2000 : Int32))), (0, .ref hT)]) hx hb dX12_settle_10 rfl hl (by decide) rfl (fun ls hl => ?_)
  exact (kL_X12_settle l D hT aT yT n n).1 C X (lv_sub hl [2, 1, 0] rfl) hF

/-! ### X12_rowCalled -/
theorem dX12_rowCalled_0 : decode cX12_rowCalled 0 = .ok (.iconst 0, 1) := by decide +kernel
theorem dX12_rowCalled_1 : decode cX12_rowCalled 1 = .ok (.istore 4, 2) := by decide +kernel
theorem dX12_rowCalled_3 : decode cX12_rowCalled 3 = .ok (.iload 4, 2) := by decide +kernel
theorem dX12_rowCalled_5 : decode cX12_rowCalled 5 = .ok (.iload_n 2, 1) := by decide +kernel
theorem dX12_rowCalled_6 : decode cX12_rowCalled 6 = .ok (.if_icmp .ge 21, 3) := by decide +kernel
theorem dX12_rowCalled_9 : decode cX12_rowCalled 9 = .ok (.aload_n 0, 1) := by decide +kernel
theorem dX12_rowCalled_10 : decode cX12_rowCalled 10 = .ok (.iload_n 1, 1) := by decide +kernel
theorem dX12_rowCalled_11 : decode cX12_rowCalled 11 = .ok (.iload 4, 2) := by decide +kernel
theorem dX12_rowCalled_13 : decode cX12_rowCalled 13 = .ok (.iadd, 1) := by decide +kernel
theorem dX12_rowCalled_14 : decode cX12_rowCalled 14 = .ok (.iload_n 3, 1) := by decide +kernel
theorem dX12_rowCalled_15 : decode cX12_rowCalled 15 = .ok (.invokevirtual 711, 3) := by decide +kernel
theorem dX12_rowCalled_18 : decode cX12_rowCalled 18 = .ok (.ifCond .ne 9, 3) := by decide +kernel
theorem dX12_rowCalled_21 : decode cX12_rowCalled 21 = .ok (.iinc 4 1, 3) := by decide +kernel
theorem dX12_rowCalled_24 : decode cX12_rowCalled 24 = .ok (.goto (-21), 3) := by decide +kernel
theorem dX12_rowCalled_27 : decode cX12_rowCalled 27 = .ok (.iload 4, 2) := by decide +kernel
theorem dX12_rowCalled_29 : decode cX12_rowCalled 29 = .ok (.iload_n 2, 1) := by decide +kernel
theorem dX12_rowCalled_30 : decode cX12_rowCalled 30 = .ok (.if_icmp .ne 7, 3) := by decide +kernel
theorem dX12_rowCalled_33 : decode cX12_rowCalled 33 = .ok (.iconst (-1), 1) := by decide +kernel
theorem dX12_rowCalled_34 : decode cX12_rowCalled 34 = .ok (.goto 5, 3) := by decide +kernel
theorem dX12_rowCalled_37 : decode cX12_rowCalled 37 = .ok (.iload 4, 2) := by decide +kernel
theorem dX12_rowCalled_39 : decode cX12_rowCalled 39 = .ok (.ireturn, 1) := by decide +kernel
abbrev R_X12_rowCalled : Room := ({ frames := 1, cells := 0, slots := 0, locals := 25 } : Room)
def b_X12_rowCalled_27 (n : Nat) (rec : (Gs → Int32 → Int32 → Int32 → Int32 → Option (Int32))) (gT : Gs) (v2 : Int32) (v4 : Int32) : Option (Int32) :=
  if v4 = v2 then (some (-1 : Int32)) else (some v4)
def h_X12_rowCalled_3 (n : Nat) (rec : (Gs → Int32 → Int32 → Int32 → Int32 → Option (Int32))) (gT : Gs) (v1 : Int32) (v2 : Int32) (v3 : Int32) (v4 : Int32) : Option (Int32) :=
  if v2 ≤ v4 then (b_X12_rowCalled_27 n rec gT v2 v4) else (bnd (f_X12_isCalled n gT (v1 + v4) v3) (fun q_1 => if q_1 = 0 then (rec gT v1 v2 v3 (v4 + (1 : Int32))) else (b_X12_rowCalled_27 n rec gT v2 v4)))
def L_X12_rowCalled (n : Nat) : Nat → (Gs → Int32 → Int32 → Int32 → Int32 → Option (Int32))
  | 0 => ((fun _ _ _ _ _ => none))
  | k + 1 => (h_X12_rowCalled_3 n (L_X12_rowCalled n k))
def f_X12_rowCalled (n : Nat) (gT : Gs) (x0 : Int32) (x1 : Int32) (x2 : Int32) : Option (Int32) :=
  (L_X12_rowCalled n n) gT x0 x1 x2 (0 : Int32)
def S_X12_rowCalled_27 (l : Launch) (D : Dx) (hT : Nat) (aT : Nat → Nat) (yT : Nat → ClassId) (fn : Gs → Int32 → Int32 → Option (Int32)) : Prop :=
  ∀ {p : Program} {e : Env} {s : State} {m : MethodId} {args : Array Value} {below : List Frame} {meth : Method} {c : Code} {H : Heap} {locs : List Loc} {A : Nat → Prop} {ls : Array Slot} {gT : Gs} {v2 : Int32} {v4 : Int32} {q : Int32}, Cx p s m args meth c cX12_rowCalled (some .int) 5 RX12 lw_all → Hx D (tX12 yT) A s H locs (wX12 hT aT yT gT) → lv_has ls 5 [(2, .int v2), (4, .int v4)] → fn gT v2 v4 = some q → W p l e R_X12_rowCalled s m args below meth c H locs 0 0 (MQ below (QI D A (wX12 hT aT yT gT) q) args s 0 0 A) (F0 m 27 ls [])
def S_X12_rowCalled_3 (l : Launch) (D : Dx) (hT : Nat) (aT : Nat → Nat) (yT : Nat → ClassId) (fn : Gs → Int32 → Int32 → Int32 → Int32 → Option (Int32)) : Prop :=
  ∀ {p : Program} {e : Env} {s : State} {m : MethodId} {args : Array Value} {below : List Frame} {meth : Method} {c : Code} {H : Heap} {locs : List Loc} {A : Nat → Prop} {ls : Array Slot} {gT : Gs} {v1 : Int32} {v2 : Int32} {v3 : Int32} {v4 : Int32} {q : Int32}, Cx p s m args meth c cX12_rowCalled (some .int) 5 RX12 lw_all → Hx D (tX12 yT) A s H locs (wX12 hT aT yT gT) → lv_has ls 5 [(0, .ref hT), (1, .int v1), (2, .int v2), (3, .int v3), (4, .int v4)] → fn gT v1 v2 v3 v4 = some q → W p l e R_X12_rowCalled s m args below meth c H locs 0 0 (MQ below (QI D A (wX12 hT aT yT gT) q) args s 0 0 A) (F0 m 3 ls [])
def SH_X12_rowCalled (l : Launch) (D : Dx) (hT : Nat) (aT : Nat → Nat) (yT : Nat → ClassId) (rec : (Gs → Int32 → Int32 → Int32 → Int32 → Option (Int32))) : Prop := S_X12_rowCalled_3 l D hT aT yT rec
set_option maxHeartbeats 4000000 in
set_option maxRecDepth 100000 in
theorem k_X12_rowCalled_27 (l : Launch) (D : Dx) (hT : Nat) (aT : Nat → Nat) (yT : Nat → ClassId) (n : Nat) (rec : (Gs → Int32 → Int32 → Int32 → Int32 → Option (Int32))) (IH : SH_X12_rowCalled l D hT aT yT rec) : S_X12_rowCalled_27 l D hT aT yT (b_X12_rowCalled_27 n rec) := by
  intro p e s m args below meth c H locs A ls gT v2 v4 q C X hl hF
  obtain ⟨hx, hb, hr, hml, hown, hts, hlk⟩ := id C
  unfold b_X12_rowCalled_27 at hF
  refine lv_iload hx hb dX12_rowCalled_27 (lv_at hl 1 rfl) ?_
  refine lv_iload_n hx hb dX12_rowCalled_29 rfl (lv_at hl 0 rfl) ?_
  refine lv_icmp_ne (tgt := 37) hx hb dX12_rowCalled_30 (by decide) (fun c => ?_) (fun c => ?_)
  · replace hF := iF c hF
    refine lv_iload hx hb dX12_rowCalled_37 (lv_at hl 1 rfl) ?_
    have hq := Option.some.inj hF
    subst hq
    exact rt_i C X dX12_rowCalled_39
  · replace hF := iT c hF
    refine lv_iconst (v := (-1 : Int32)) hx hb dX12_rowCalled_33 (by decide) ?_
    refine lv_goto (tgt := 39) hx hb dX12_rowCalled_34 (by decide) ?_
    have hq := Option.some.inj hF
    subst hq
    exact rt_i C X dX12_rowCalled_39
set_option maxHeartbeats 4000000 in
set_option maxRecDepth 100000 in
theorem k_X12_rowCalled_3 (l : Launch) (D : Dx) (hT : Nat) (aT : Nat → Nat) (yT : Nat → ClassId) (n : Nat) (rec : (Gs → Int32 → Int32 → Int32 → Int32 → Option (Int32))) (IH : SH_X12_rowCalled l D hT aT yT rec) : S_X12_rowCalled_3 l D hT aT yT (h_X12_rowCalled_3 n rec) := by
  intro p e s m args below meth c H locs A ls gT v1 v2 v3 v4 q C X hl hF
  obtain ⟨hx, hb, hr, hml, hown, hts, hlk⟩ := id C
  unfold h_X12_rowCalled_3 at hF
  refine lv_iload hx hb dX12_rowCalled_3 (lv_at hl 4 rfl) ?_
  refine lv_iload_n hx hb dX12_rowCalled_5 rfl (lv_at hl 2 rfl) ?_
  refine lv_icmp_ge (tgt := 27) hx hb dX12_rowCalled_6 (by decide) (fun c => ?_) (fun c => ?_)
  · replace hF := iT c hF
    exact (k_X12_rowCalled_27 l D hT aT yT n rec IH) C X (lv_sub hl [2, 4] rfl) hF
  · replace hF := iF c hF
    refine lv_aload_n hx hb dX12_rowCalled_9 rfl (lv_at hl 0 rfl) ?_
    refine lv_iload_n hx hb dX12_rowCalled_10 rfl (lv_at hl 1 rfl) ?_
    refine lv_iload hx hb dX12_rowCalled_11 (lv_at hl 4 rfl) ?_
    refine lv_iadd hx hb dX12_rowCalled_13 ?_
    refine lv_iload_n hx hb dX12_rowCalled_14 rfl (lv_at hl 3 rfl) ?_
    obtain ⟨q_1, hc_2, hF⟩ := bnd_some hF
    refine cV_i (As := [.int (v1 + v4), .int v3]) (rest := []) C X (c_X12_isCalled l D hT aT yT n gT (v1 + v4) v3 q_1 hc_2 _) (cwV 2 hts (good_V q9_155 q9_157 q0_124 q1_9 q9_158) rfl rfl rfl (by decide +kernel) ⟨Nat.le_of_ble_eq_true rfl, Nat.le_of_ble_eq_true rfl⟩) (va_recv X.1 X.2.1 (ci := 12) (q0 := 0) rfl rfl) X.1 X.2.1 X.2.2.1 (free_all X) hl.1 rfl rfl (Nat.le_of_ble_eq_true rfl) dX12_rowCalled_15 ⟨Nat.le_of_ble_eq_true rfl, Nat.le_of_ble_eq_true rfl⟩ (fun t H1 locs1 ht hB hk hS => ?_)
    have X : Hx D (tX12 yT) A s H1 locs1 (wX12 hT aT yT gT) := Hx_after_all X ht hB hS
    clear hk hS ht hB
    generalize H1 = H at X ⊢
    generalize locs1 = locs at X ⊢
    refine lv_if_ne (tgt := 27) hx hb dX12_rowCalled_18 (by decide) (fun c => ?_) (fun c => ?_)
    · replace hF := iF c hF
      exact (k_X12_rowCalled_27 l D hT aT yT n rec IH) C X (lv_sub hl [2, 4] rfl) hF
    · replace hF := iT c hF
      refine lv_iinc (v := v4 + (1 : Int32)) (lv' := [(4, .int (v4 + (1 : Int32))), (0, .ref hT), (1, .int v1), (2, .int v2), (3, .int v3)]) hx hb dX12_rowCalled_21 hl (k := 4) rfl rfl (by decide) rfl (fun ls hl => ?_)
      refine lv_goto (tgt := 3) hx hb dX12_rowCalled_24 (by decide) ?_
      exact IH C X (lv_sub hl [1, 2, 3, 4, 0] rfl) hF
theorem kL_X12_rowCalled (l : Launch) (D : Dx) (hT : Nat) (aT : Nat → Nat) (yT : Nat → ClassId) (n : Nat) : ∀ k, SH_X12_rowCalled l D hT aT yT (L_X12_rowCalled n k)
  | 0 => fun _ _ _ h => by cases h
  | k + 1 => k_X12_rowCalled_3 l D hT aT yT n _ (kL_X12_rowCalled l D hT aT yT n k)
set_option maxHeartbeats 4000000 in
set_option maxRecDepth 100000 in
theorem c_X12_rowCalled (l : Launch) (D : Dx) (hT : Nat) (aT : Nat → Nat) (yT : Nat → ClassId) (n : Nat) (gT : Gs) (x0 : Int32) (x1 : Int32) (x2 : Int32) (q : Int32) (hF : f_X12_rowCalled n gT x0 x1 x2 = some q) (sz : Nat) : Met l yX12_rowCalled (ws_ yX12_rowCalled cX12_rowCalled 5 (some .int)) R_X12_rowCalled (PC D (tX12 yT) [.ref hT, .int x0, .int x1, .int x2] (wX12 hT aT yT gT) sz) (QI D (va_A (wX12 hT aT yT gT) sz) (wX12 hT aT yT gT) q) 0 0 (va_A (wX12 hT aT yT gT) sz) := by
  refine Met.ofW (cc := cX12_rowCalled) (maxL := 5) (ret := (some .int)) (by decide) rfl ?_
  intro p e s m args below meth c s₁ B hml hv
  obtain ⟨rfl, hsz, hP, hK, hD, hN⟩ := hv
  subst hsz
  have C : Cx p s m _ meth c cX12_rowCalled (some .int) 5 RX12 lw_all := Cx_of B hml
  have X := Hx_start hP hK hD hN
  obtain ⟨hx, hb, hr, -, hown, hts, hlk⟩ := id C
  generalize va_A (wX12 hT aT yT gT) s.heap.size = A at X ⊢
  have hl := lv_entry ([.ref hT, .int x0, .int x1, .int x2]) (n := 5) (Nat.le_of_ble_eq_true rfl)
  rw [lg_entry_eq]
  generalize (lg_sl ([.ref hT, .int x0, .int x1, .int x2]) ++ List.replicate (5 - (lg_sl ([.ref hT, .int x0, .int x1, .int x2])).length) Slot.unset).toArray = ls at hl ⊢
  have hl : lv_has ls 5 [(0, .ref hT), (1, .int x0), (2, .int x1), (3, .int x2)] := hl
  unfold f_X12_rowCalled at hF
  refine lv_iconst (v := (0 : Int32)) hx hb dX12_rowCalled_0 (by decide) ?_
  refine lv_istore (lv' := [(4, .int (0 : Int32)), (0, .ref hT), (1, .int x0), (2, .int x1), (3, .int x2)]) hx hb dX12_rowCalled_1 hl (by decide) rfl (fun ls hl => ?_)
  exact (kL_X12_rowCalled l D hT aT yT n n) C X (lv_sub hl [1, 2, 3, 4, 0] rfl) hF

/-! ### X12_strikes -/
theorem dX12_strikes_0 : decode cX12_strikes 0 = .ok (.aload_n 0, 1) := by decide +kernel
theorem dX12_strikes_1 : decode cX12_strikes 1 = .ok (.aload_n 0, 1) := by decide +kernel
theorem dX12_strikes_2 : decode cX12_strikes 2 = .ok (.getfield 280, 3) := by decide +kernel
theorem dX12_strikes_5 : decode cX12_strikes 5 = .ok (.iload_n 1, 1) := by decide +kernel
theorem dX12_strikes_6 : decode cX12_strikes 6 = .ok (.iaload, 1) := by decide +kernel
theorem dX12_strikes_7 : decode cX12_strikes 7 = .ok (.aload_n 0, 1) := by decide +kernel
theorem dX12_strikes_8 : decode cX12_strikes 8 = .ok (.getfield 283, 3) := by decide +kernel
theorem dX12_strikes_11 : decode cX12_strikes 11 = .ok (.iload_n 1, 1) := by decide +kernel
theorem dX12_strikes_12 : decode cX12_strikes 12 = .ok (.iaload, 1) := by decide +kernel
theorem dX12_strikes_13 : decode cX12_strikes 13 = .ok (.invokevirtual 646, 3) := by decide +kernel
theorem dX12_strikes_16 : decode cX12_strikes 16 = .ok (.ifCond .ne 12, 3) := by decide +kernel
theorem dX12_strikes_19 : decode cX12_strikes 19 = .ok (.aload_n 0, 1) := by decide +kernel
theorem dX12_strikes_20 : decode cX12_strikes 20 = .ok (.bipush 40, 2) := by decide +kernel
theorem dX12_strikes_22 : decode cX12_strikes 22 = .ok (.iload_n 1, 1) := by decide +kernel
theorem dX12_strikes_23 : decode cX12_strikes 23 = .ok (.iadd, 1) := by decide +kernel
theorem dX12_strikes_24 : decode cX12_strikes 24 = .ok (.invokevirtual 649, 3) := by decide +kernel
theorem dX12_strikes_27 : decode cX12_strikes 27 = .ok (.return_, 1) := by decide +kernel
theorem dX12_strikes_28 : decode cX12_strikes 28 = .ok (.aload_n 0, 1) := by decide +kernel
theorem dX12_strikes_29 : decode cX12_strikes 29 = .ok (.getfield 343, 3) := by decide +kernel
theorem dX12_strikes_32 : decode cX12_strikes 32 = .ok (.lconst 0, 1) := by decide +kernel
theorem dX12_strikes_33 : decode cX12_strikes 33 = .ok (.lcmp, 1) := by decide +kernel
theorem dX12_strikes_34 : decode cX12_strikes 34 = .ok (.ifCond .ne 4, 3) := by decide +kernel
theorem dX12_strikes_37 : decode cX12_strikes 37 = .ok (.return_, 1) := by decide +kernel
theorem dX12_strikes_38 : decode cX12_strikes 38 = .ok (.aload_n 0, 1) := by decide +kernel
theorem dX12_strikes_39 : decode cX12_strikes 39 = .ok (.getfield 316, 3) := by decide +kernel
theorem dX12_strikes_42 : decode cX12_strikes 42 = .ok (.iload_n 1, 1) := by decide +kernel
theorem dX12_strikes_43 : decode cX12_strikes 43 = .ok (.iaload, 1) := by decide +kernel
theorem dX12_strikes_44 : decode cX12_strikes 44 = .ok (.ldc_w 652, 3) := by decide +kernel
theorem dX12_strikes_47 : decode cX12_strikes 47 = .ok (.if_icmp .ge 13, 3) := by decide +kernel
theorem dX12_strikes_50 : decode cX12_strikes 50 = .ok (.aload_n 0, 1) := by decide +kernel
theorem dX12_strikes_51 : decode cX12_strikes 51 = .ok (.getfield 316, 3) := by decide +kernel
theorem dX12_strikes_54 : decode cX12_strikes 54 = .ok (.iload_n 1, 1) := by decide +kernel
theorem dX12_strikes_55 : decode cX12_strikes 55 = .ok (.dup2, 1) := by decide +kernel
theorem dX12_strikes_56 : decode cX12_strikes 56 = .ok (.iaload, 1) := by decide +kernel
theorem dX12_strikes_57 : decode cX12_strikes 57 = .ok (.iconst 1, 1) := by decide +kernel
theorem dX12_strikes_58 : decode cX12_strikes 58 = .ok (.iadd, 1) := by decide +kernel
theorem dX12_strikes_59 : decode cX12_strikes 59 = .ok (.iastore, 1) := by decide +kernel
theorem dX12_strikes_60 : decode cX12_strikes 60 = .ok (.aload_n 0, 1) := by decide +kernel
theorem dX12_strikes_61 : decode cX12_strikes 61 = .ok (.getfield 326, 3) := by decide +kernel
theorem dX12_strikes_64 : decode cX12_strikes 64 = .ok (.aload_n 0, 1) := by decide +kernel
theorem dX12_strikes_65 : decode cX12_strikes 65 = .ok (.getfield 323, 3) := by decide +kernel
theorem dX12_strikes_68 : decode cX12_strikes 68 = .ok (.bipush 63, 2) := by decide +kernel
theorem dX12_strikes_70 : decode cX12_strikes 70 = .ok (.iand, 1) := by decide +kernel
theorem dX12_strikes_71 : decode cX12_strikes 71 = .ok (.aload_n 0, 1) := by decide +kernel
theorem dX12_strikes_72 : decode cX12_strikes 72 = .ok (.getfield 319, 3) := by decide +kernel
theorem dX12_strikes_75 : decode cX12_strikes 75 = .ok (.lastore, 1) := by decide +kernel
theorem dX12_strikes_76 : decode cX12_strikes 76 = .ok (.aload_n 0, 1) := by decide +kernel
theorem dX12_strikes_77 : decode cX12_strikes 77 = .ok (.getfield 329, 3) := by decide +kernel
theorem dX12_strikes_80 : decode cX12_strikes 80 = .ok (.aload_n 0, 1) := by decide +kernel
theorem dX12_strikes_81 : decode cX12_strikes 81 = .ok (.getfield 323, 3) := by decide +kernel
theorem dX12_strikes_84 : decode cX12_strikes 84 = .ok (.bipush 63, 2) := by decide +kernel
theorem dX12_strikes_86 : decode cX12_strikes 86 = .ok (.iand, 1) := by decide +kernel
theorem dX12_strikes_87 : decode cX12_strikes 87 = .ok (.iload_n 1, 1) := by decide +kernel
theorem dX12_strikes_88 : decode cX12_strikes 88 = .ok (.iastore, 1) := by decide +kernel
theorem dX12_strikes_89 : decode cX12_strikes 89 = .ok (.aload_n 0, 1) := by decide +kernel
theorem dX12_strikes_90 : decode cX12_strikes 90 = .ok (.aload_n 0, 1) := by decide +kernel
theorem dX12_strikes_91 : decode cX12_strikes 91 = .ok (.getfield 323, 3) := by decide +kernel
theorem dX12_strikes_94 : decode cX12_strikes 94 = .ok (.ldc_w 652, 3) := by decide +kernel
theorem dX12_strikes_97 : decode cX12_strikes 97 = .ok (.if_icmp .ne 18, 3) := by decide +kernel
theorem dX12_strikes_100 : decode cX12_strikes 100 = .ok (.bipush 64, 2) := by decide +kernel
theorem dX12_strikes_102 : decode cX12_strikes 102 = .ok (.aload_n 0, 1) := by decide +kernel
theorem dX12_strikes_103 : decode cX12_strikes 103 = .ok (.getfield 323, 3) := by decide +kernel
theorem dX12_strikes_106 : decode cX12_strikes 106 = .ok (.iconst 1, 1) := by decide +kernel
theorem dX12_strikes_107 : decode cX12_strikes 107 = .ok (.iadd, 1) := by decide +kernel
theorem dX12_strikes_108 : decode cX12_strikes 108 = .ok (.bipush 63, 2) := by decide +kernel
theorem dX12_strikes_110 : decode cX12_strikes 110 = .ok (.iand, 1) := by decide +kernel
theorem dX12_strikes_111 : decode cX12_strikes 111 = .ok (.iadd, 1) := by decide +kernel
theorem dX12_strikes_112 : decode cX12_strikes 112 = .ok (.goto 9, 3) := by decide +kernel
theorem dX12_strikes_115 : decode cX12_strikes 115 = .ok (.aload_n 0, 1) := by decide +kernel
theorem dX12_strikes_116 : decode cX12_strikes 116 = .ok (.getfield 323, 3) := by decide +kernel
theorem dX12_strikes_119 : decode cX12_strikes 119 = .ok (.iconst 1, 1) := by decide +kernel
theorem dX12_strikes_120 : decode cX12_strikes 120 = .ok (.iadd, 1) := by decide +kernel
theorem dX12_strikes_121 : decode cX12_strikes 121 = .ok (.putfield 323, 3) := by decide +kernel
theorem dX12_strikes_124 : decode cX12_strikes 124 = .ok (.return_, 1) := by decide +kernel
abbrev R_X12_strikes : Room := ({ frames := 9, cells := 0, slots := 0, locals := 251 } : Room)
def b_X12_strikes_121 (n : Nat) (gT : Gs) (s0 : Int32) : Option (Gs) :=
  some (sI gT 88 s0)
def b_X12_strikes_60 (n : Nat) (gT : Gs) (v1 : Int32) : Option (Gs) :=
  grd (inB ((gI gT 88) &&& (63 : Int32)) 64) (grd (inB ((gI gT 88) &&& (63 : Int32)) 64) (if (gI gT 88) = (2147483647 : Int32) then (b_X12_strikes_121 n (sIA (sLA gT 89 (vp_updL (gLA gT 89) ((gI gT 88) &&& (63 : Int32)).toNatClampNeg (gL gT 87))) 90 (upd (gIA gT 90) ((gI gT 88) &&& (63 : Int32)).toNatClampNeg v1)) ((64 : Int32) + (((gI gT 88) + (1 : Int32)) &&& (63 : Int32)))) else (b_X12_strikes_121 n (sIA (sLA gT 89 (vp_updL (gLA gT 89) ((gI gT 88) &&& (63 : Int32)).toNatClampNeg (gL gT 87))) 90 (upd (gIA gT 90) ((gI gT 88) &&& (63 : Int32)).toNatClampNeg v1)) ((gI gT 88) + (1 : Int32)))))
def f_X12_strikes (n : Nat) (gT : Gs) (x0 : Int32) : Option (Gs) :=
  grd (inB x0 12) (grd (inB x0 12) (bnd (f_X12_works n gT (gIA gT 74 x0.toNatClampNeg) (gIA gT 75 x0.toNatClampNeg)) (fun q_3 => if q_3.1 = 0 then (bnd (f_X12_jammed q_3.2 ((40 : Int32) + x0)) (fun q_10 => some q_10)) else (if (gL q_3.2 94) = (0 : Int64) then (some q_3.2) else (grd (inB x0 12) (if (2147483647 : Int32) ≤ (gIA q_3.2 86 x0.toNatClampNeg) then (b_X12_strikes_60 n q_3.2 x0) else (grd (inB x0 12) (grd (inB x0 12) (b_X12_strikes_60 n (sIA q_3.2 86 (upd (gIA q_3.2 86) x0.toNatClampNeg ((gIA q_3.2 86 x0.toNatClampNeg) + (1 : Int32)))) x0)))))))))
def S_X12_strikes_121 (l : Launch) (D : Dx) (hT : Nat) (aT : Nat → Nat) (yT : Nat → ClassId) (fn : Gs → Int32 → Option (Gs)) : Prop :=
  ∀ {p : Program} {e : Env} {s : State} {m : MethodId} {args : Array Value} {below : List Frame} {meth : Method} {c : Code} {H : Heap} {locs : List Loc} {A : Nat → Prop} {ls : Array Slot} {gT : Gs} {s0 : Int32} {q : Gs}, Cx p s m args meth c cX12_strikes none 2 RX12 lw_all → Hx D (tX12 yT) A s H locs (wX12 hT aT yT gT) → lv_has ls 2 [] → fn gT s0 = some q → W p l e R_X12_strikes s m args below meth c H locs 0 0 (MQ below (QV D A (wX12 hT aT yT q)) args s 0 0 A) (F0 m 121 ls [.int s0, .ref hT])
def S_X12_strikes_60 (l : Launch) (D : Dx) (hT : Nat) (aT : Nat → Nat) (yT : Nat → ClassId) (fn : Gs → Int32 → Option (Gs)) : Prop :=
  ∀ {p : Program} {e : Env} {s : State} {m : MethodId} {args : Array Value} {below : List Frame} {meth : Method} {c : Code} {H : Heap} {locs : List Loc} {A : Nat → Prop} {ls : Array Slot} {gT : Gs} {v1 : Int32} {q : Gs}, Cx p s m args meth c cX12_strikes none 2 RX12 lw_all → Hx D (tX12 yT) A s H locs (wX12 hT aT yT gT) → lv_has ls 2 [(0, .ref hT), (1, .int v1)] → fn gT v1 = some q → W p l e R_X12_strikes s m args below meth c H locs 0 0 (MQ below (QV D A (wX12 hT aT yT q)) args s 0 0 A) (F0 m 60 ls [])
set_option maxHeartbeats 4000000 in
set_option maxRecDepth 100000 in
theorem k_X12_strikes_121 (l : Launch) (D : Dx) (hT : Nat) (aT : Nat → Nat) (yT : Nat → ClassId) (n : Nat) : S_X12_strikes_121 l D hT aT yT (b_X12_strikes_121 n) := by
  intro p e s m args below meth c H locs A ls gT s0 q C X hl hF
  obtain ⟨hx, hb, hr, hml, hown, hts, hlk⟩ := id C
  unfold b_X12_strikes_121 at hF
  refine va_put (D := D.1) (ci := 12) (v := .int s0) (ty := .int) (C := RX12) (T := TX12) (N := 114) hx hb hts wi_X12 tyX12 tyX12_ok nmX12 hown X.1 X.2.1 X.2.2.1 X.2.2.2.1 0 rfl rfl 88 (by decide) (hts _ q7_42) (fun _ h9 => h9) rfl (by decide +kernel) rfl rfl (by rw [List.length_map, List.length_range]; decide) dX12_strikes_121 (fun H locs hP hD hS => ?_)
  have X : Hx D (tX12 yT) A s H locs (wX12 hT aT yT (sI gT 88 s0)) := Hx_set X (wG_sI (k := 88) rfl) hP hD hS
  have hq := Option.some.inj hF
  subst hq
  exact rt_v C X dX12_strikes_124
set_option maxHeartbeats 4000000 in
set_option maxRecDepth 100000 in
theorem k_X12_strikes_60 (l : Launch) (D : Dx) (hT : Nat) (aT : Nat → Nat) (yT : Nat → ClassId) (n : Nat) : S_X12_strikes_60 l D hT aT yT (b_X12_strikes_60 n) := by
  intro p e s m args below meth c H locs A ls gT v1 q C X hl hF
  obtain ⟨hx, hb, hr, hml, hown, hts, hlk⟩ := id C
  unfold b_X12_strikes_60 at hF
  refine lv_aload_n hx hb dX12_strikes_60 rfl (lv_at hl 0 rfl) ?_
  refine va_get (D := D.1) (ci := 12) (v := .ref (aT 89)) (C := RX12) (T := TX12) (N := 114) hx hb hts wi_X12 hown X.1 X.2.1 0 rfl rfl 89 (by decide) (hts _ q7_43) (fun _ h9 => h9) (fl_get (by decide)) dX12_strikes_61 ?_
  refine lv_aload_n hx hb dX12_strikes_64 rfl (lv_at hl 0 rfl) ?_
  refine va_get (D := D.1) (ci := 12) (v := .int (gI gT 88)) (C := RX12) (T := TX12) (N := 114) hx hb hts wi_X12 hown X.1 X.2.1 0 rfl rfl 88 (by decide) (hts _ q7_42) (fun _ h9 => h9) (fl_get (by decide)) dX12_strikes_65 ?_
  refine lv_bipush (v := (63 : Int32)) hx hb dX12_strikes_68 (by decide) ?_
  refine lv_iand hx hb dX12_strikes_70 ?_
  refine lv_aload_n hx hb dX12_strikes_71 rfl (lv_at hl 0 rfl) ?_
  refine va_get (D := D.1) (ci := 12) (v := .long (gL gT 87)) (C := RX12) (T := TX12) (N := 114) hx hb hts wi_X12 hown X.1 X.2.1 0 rfl rfl 87 (by decide) (hts _ q7_41) (fun _ h9 => h9) (fl_get (by decide)) dX12_strikes_72 ?_
  obtain ⟨h_6, hF⟩ := grd_some hF
  refine va_last (D := D.1) (f := gLA gT 89) hx hb X.1 X.2.1 X.2.2.1 X.2.2.2.1 61 60 rfl rfl (inB_ok h_6) dX12_strikes_75 (fun H locs hP hD hS => ?_)
  have X : Hx D (tX12 yT) A s H locs (wX12 hT aT yT (sLA gT 89 (vp_updL (gLA gT 89) ((gI gT 88) &&& (63 : Int32)).toNatClampNeg (gL gT 87)))) := Hx_set X (wG_sLA (i := 60) (k := 89) ndX12 rfl rfl) hP hD hS
  refine lv_aload_n hx hb dX12_strikes_76 rfl (lv_at hl 0 rfl) ?_
  refine va_get (D := D.1) (ci := 12) (v := .ref (aT 90)) (C := RX12) (T := TX12) (N := 114) hx hb hts wi_X12 hown X.1 X.2.1 0 rfl rfl 90 (by decide) (hts _ q7_44) (fun _ h9 => h9) (fl_get (by decide)) dX12_strikes_77 ?_
  refine lv_aload_n hx hb dX12_strikes_80 rfl (lv_at hl 0 rfl) ?_
  refine va_get (D := D.1) (ci := 12) (v := .int (gI gT 88)) (C := RX12) (T := TX12) (N := 114) hx hb hts wi_X12 hown X.1 X.2.1 0 rfl rfl 88 (by decide) (hts _ q7_42) (fun _ h9 => h9) (fl_get (by decide)) dX12_strikes_81 ?_
  refine lv_bipush (v := (63 : Int32)) hx hb dX12_strikes_84 (by decide) ?_
  refine lv_iand hx hb dX12_strikes_86 ?_
  refine lv_iload_n hx hb dX12_strikes_87 rfl (lv_at hl 1 rfl) ?_
  obtain ⟨h_7, hF⟩ := grd_some hF
  refine va_iast (D := D.1) (f := gIA gT 90) hx hb X.1 X.2.1 X.2.2.1 X.2.2.2.1 62 61 rfl rfl (inB_ok h_7) dX12_strikes_88 (fun H locs hP hD hS => ?_)
  have X : Hx D (tX12 yT) A s H locs (wX12 hT aT yT (sIA (sLA gT 89 (vp_updL (gLA gT 89) ((gI gT 88) &&& (63 : Int32)).toNatClampNeg (gL gT 87))) 90 (upd (gIA gT 90) ((gI gT 88) &&& (63 : Int32)).toNatClampNeg v1))) := Hx_set X (wG_sIA (i := 61) (k := 90) ndX12 rfl rfl) hP hD hS
  refine lv_aload_n hx hb dX12_strikes_89 rfl (lv_at hl 0 rfl) ?_
  refine lv_aload_n hx hb dX12_strikes_90 rfl (lv_at hl 0 rfl) ?_
  refine va_get (D := D.1) (ci := 12) (v := .int (gI gT 88)) (C := RX12) (T := TX12) (N := 114) hx hb hts wi_X12 hown X.1 X.2.1 0 rfl rfl 88 (by decide) (hts _ q7_42) (fun _ h9 => h9) (fl_get (by decide)) dX12_strikes_91 ?_
  refine lv_ldcw hx hb hown (hts _ q9_142) dX12_strikes_94 ?_
  refine lv_icmp_ne (tgt := 115) hx hb dX12_strikes_97 (by decide) (fun c => ?_) (fun c => ?_)
  · replace hF := iF c hF
    refine lv_aload_n hx hb dX12_strikes_115 rfl (lv_at hl 0 rfl) ?_
    refine va_get (D := D.1) (ci := 12) (v := .int (gI gT 88)) (C := RX12) (T := TX12) (N := 114) hx hb hts wi_X12 hown X.1 X.2.1 0 rfl rfl 88 (by decide) (hts _ q7_42) (fun _ h9 => h9) (fl_get (by decide)) dX12_strikes_116 ?_
    refine lv_iconst (v := (1 : Int32)) hx hb dX12_strikes_119 (by decide) ?_
    refine lv_iadd hx hb dX12_strikes_120 ?_
    exact (k_X12_strikes_121 l D hT aT yT n) C X (lv_sub hl [] rfl) hF
  · replace hF := iT c hF
    refine lv_bipush (v := (64 : Int32)) hx hb dX12_strikes_100 (by decide) ?_
    refine lv_aload_n hx hb dX12_strikes_102 rfl (lv_at hl 0 rfl) ?_
    refine va_get (D := D.1) (ci := 12) (v := .int (gI gT 88)) (C := RX12) (T := TX12) (N := 114) hx hb hts wi_X12 hown X.1 X.2.1 0 rfl rfl 88 (by decide) (hts _ q7_42) (fun _ h9 => h9) (fl_get (by decide)) dX12_strikes_103 ?_
    refine lv_iconst (v := (1 : Int32)) hx hb dX12_strikes_106 (by decide) ?_
    refine lv_iadd hx hb dX12_strikes_107 ?_
    refine lv_bipush (v := (63 : Int32)) hx hb dX12_strikes_108 (by decide) ?_
    refine lv_iand hx hb dX12_strikes_110 ?_
    refine lv_iadd hx hb dX12_strikes_111 ?_
    refine lv_goto (tgt := 121) hx hb dX12_strikes_112 (by decide) ?_
    exact (k_X12_strikes_121 l D hT aT yT n) C X (lv_sub hl [] rfl) hF
set_option maxHeartbeats 4000000 in
set_option maxRecDepth 100000 in
theorem c_X12_strikes (l : Launch) (D : Dx) (hT : Nat) (aT : Nat → Nat) (yT : Nat → ClassId) (n : Nat) (gT : Gs) (x0 : Int32) (q : Gs) (hF : f_X12_strikes n gT x0 = some q) (sz : Nat) : Met l yX12_strikes (ws_ yX12_strikes cX12_strikes 2 none) R_X12_strikes (PC D (tX12 yT) [.ref hT, .int x0] (wX12 hT aT yT gT) sz) (QV D (va_A (wX12 hT aT yT gT) sz) (wX12 hT aT yT q)) 0 0 (va_A (wX12 hT aT yT gT) sz) := by
  refine Met.ofW (cc := cX12_strikes) (maxL := 2) (ret := none) (by decide) rfl ?_
  intro p e s m args below meth c s₁ B hml hv
  obtain ⟨rfl, hsz, hP, hK, hD, hN⟩ := hv
  subst hsz
  have C : Cx p s m _ meth c cX12_strikes none 2 RX12 lw_all := Cx_of B hml
  have X := Hx_start hP hK hD hN
  obtain ⟨hx, hb, hr, -, hown, hts, hlk⟩ := id C
  generalize va_A (wX12 hT aT yT gT) s.heap.size = A at X ⊢
  have hl := lv_entry ([.ref hT, .int x0]) (n := 2) (Nat.le_of_ble_eq_true rfl)
  rw [lg_entry_eq]
  generalize (lg_sl ([.ref hT, .int x0]) ++ List.replicate (2 - (lg_sl ([.ref hT, .int x0])).length) Slot.unset).toArray = ls at hl ⊢
  have hl : lv_has ls 2 [(0, .ref hT), (1, .int x0)] := hl
  unfold f_X12_strikes at hF
  refine lv_aload_n hx hb dX12_strikes_0 rfl (lv_at hl 0 rfl) ?_
  refine lv_aload_n hx hb dX12_strikes_1 rfl (lv_at hl 0 rfl) ?_
  refine va_get (D := D.1) (ci := 12) (v := .ref (aT 74)) (C := RX12) (T := TX12) (N := 114) hx hb hts wi_X12 hown X.1 X.2.1 0 rfl rfl 74 (by decide) (hts _ q7_28) (fun _ h9 => h9) (fl_get (by decide)) dX12_strikes_2 ?_
  refine lv_iload_n hx hb dX12_strikes_5 rfl (lv_at hl 1 rfl) ?_
  obtain ⟨h_1, hF⟩ := grd_some hF
  refine va_iald (D := D.1) (f := gIA gT 74) hx hb X.1 X.2.1 49 48 rfl rfl (inB_ok h_1) dX12_strikes_6 ?_
  refine lv_aload_n hx hb dX12_strikes_7 rfl (lv_at hl 0 rfl) ?_
  refine va_get (D := D.1) (ci := 12) (v := .ref (aT 75)) (C := RX12) (T := TX12) (N := 114) hx hb hts wi_X12 hown X.1 X.2.1 0 rfl rfl 75 (by decide) (hts _ q7_29) (fun _ h9 => h9) (fl_get (by decide)) dX12_strikes_8 ?_
  refine lv_iload_n hx hb dX12_strikes_11 rfl (lv_at hl 1 rfl) ?_
  obtain ⟨h_2, hF⟩ := grd_some hF
  refine va_iald (D := D.1) (f := gIA gT 75) hx hb X.1 X.2.1 50 49 rfl rfl (inB_ok h_2) dX12_strikes_12 ?_
  obtain ⟨q_3, hc_4, hF⟩ := bnd_some hF
  refine cV_i (As := [.int (gIA gT 74 x0.toNatClampNeg), .int (gIA gT 75 x0.toNatClampNeg)]) (rest := []) C X (c_X12_works l D hT aT yT n gT (gIA gT 74 x0.toNatClampNeg) (gIA gT 75 x0.toNatClampNeg) q_3 hc_4 _) (cwV 2 hts (good_V q9_69 q9_71 q0_109 q1_9 q9_72) rfl rfl rfl (by decide +kernel) ⟨Nat.le_of_ble_eq_true rfl, Nat.le_of_ble_eq_true rfl⟩) (va_recv X.1 X.2.1 (ci := 12) (q0 := 0) rfl rfl) X.1 X.2.1 X.2.2.1 (free_all X) hl.1 rfl rfl (Nat.le_of_ble_eq_true rfl) dX12_strikes_13 ⟨Nat.le_of_ble_eq_true rfl, Nat.le_of_ble_eq_true rfl⟩ (fun t H1 locs1 ht hB hk hS => ?_)
  have X : Hx D (tX12 yT) A s H1 locs1 (wX12 hT aT yT q_3.2) := Hx_after_all X ht hB hS
  clear hk hS ht hB
  generalize H1 = H at X ⊢
  generalize locs1 = locs at X ⊢
  refine lv_if_ne (tgt := 28) hx hb dX12_strikes_16 (by decide) (fun c => ?_) (fun c => ?_)
  · replace hF := iF c hF
    refine lv_aload_n hx hb dX12_strikes_28 rfl (lv_at hl 0 rfl) ?_
    refine va_get (D := D.1) (ci := 12) (v := .long (gL q_3.2 94)) (C := RX12) (T := TX12) (N := 114) hx hb hts wi_X12 hown X.1 X.2.1 0 rfl rfl 94 (by decide) (hts _ q7_48) (fun _ h9 => h9) (fl_get (by decide)) dX12_strikes_29 ?_
    refine lv_lconst (v := (0 : Int64)) hx hb dX12_strikes_32 (by decide) ?_
    refine W.lcmp hx hb dX12_strikes_33 ?_
    refine lv_if_ne (tgt := 38) hx hb dX12_strikes_34 (by decide) (fun c => ?_) (fun c => ?_)
    · have c := fun h => c ((lg_cmp_eq _ _).mpr h)
      replace hF := iF c hF
      refine lv_aload_n hx hb dX12_strikes_38 rfl (lv_at hl 0 rfl) ?_
      refine va_get (D := D.1) (ci := 12) (v := .ref (aT 86)) (C := RX12) (T := TX12) (N := 114) hx hb hts wi_X12 hown X.1 X.2.1 0 rfl rfl 86 (by decide) (hts _ q7_40) (fun _ h9 => h9) (fl_get (by decide)) dX12_strikes_39 ?_
      refine lv_iload_n hx hb dX12_strikes_42 rfl (lv_at hl 1 rfl) ?_
      obtain ⟨h_5, hF⟩ := grd_some hF
      refine va_iald (D := D.1) (f := gIA q_3.2 86) hx hb X.1 X.2.1 60 59 rfl rfl (inB_ok h_5) dX12_strikes_43 ?_
      refine lv_ldcw hx hb hown (hts _ q9_142) dX12_strikes_44 ?_
      refine lv_icmp_ge (tgt := 60) hx hb dX12_strikes_47 (by decide) (fun c => ?_) (fun c => ?_)
      · replace hF := iT c hF
        exact (k_X12_strikes_60 l D hT aT yT n) C X (lv_sub hl [0, 1] rfl) hF
      · replace hF := iF c hF
        refine lv_aload_n hx hb dX12_strikes_50 rfl (lv_at hl 0 rfl) ?_
        refine va_get (D := D.1) (ci := 12) (v := .ref (aT 86)) (C := RX12) (T := TX12) (N := 114) hx hb hts wi_X12 hown X.1 X.2.1 0 rfl rfl 86 (by decide) (hts _ q7_40) (fun _ h9 => h9) (fl_get (by decide)) dX12_strikes_51 ?_
        refine lv_iload_n hx hb dX12_strikes_54 rfl (lv_at hl 1 rfl) ?_
        refine lv_dup2_11 hx hb dX12_strikes_55 rfl rfl ?_
        obtain ⟨h_8, hF⟩ := grd_some hF
        refine va_iald (D := D.1) (f := gIA q_3.2 86) hx hb X.1 X.2.1 60 59 rfl rfl (inB_ok h_8) dX12_strikes_56 ?_
        refine lv_iconst (v := (1 : Int32)) hx hb dX12_strikes_57 (by decide) ?_
        refine lv_iadd hx hb dX12_strikes_58 ?_
        obtain ⟨h_9, hF⟩ := grd_some hF
        refine va_iast (D := D.1) (f := gIA q_3.2 86) hx hb X.1 X.2.1 X.2.2.1 X.2.2.2.1 60 59 rfl rfl (inB_ok h_9) dX12_strikes_59 (fun H locs hP hD hS => ?_)
        have X : Hx D (tX12 yT) A s H locs (wX12 hT aT yT (sIA q_3.2 86 (upd (gIA q_3.2 86) x0.toNatClampNeg ((gIA q_3.2 86 x0.toNatClampNeg) + (1 : Int32))))) := Hx_set X (wG_sIA (i := 59) (k := 86) ndX12 rfl rfl) hP hD hS
        exact (k_X12_strikes_60 l D hT aT yT n) C X (lv_sub hl [0, 1] rfl) hF
    · have c := (lg_cmp_eq _ _).mp c
      replace hF := iT c hF
      have hq := Option.some.inj hF
      subst hq
      exact rt_v C X dX12_strikes_37
  · replace hF := iT c hF
    refine lv_aload_n hx hb dX12_strikes_19 rfl (lv_at hl 0 rfl) ?_
    refine lv_bipush (v := (40 : Int32)) hx hb dX12_strikes_20 (by decide) ?_
    refine lv_iload_n hx hb dX12_strikes_22 rfl (lv_at hl 1 rfl) ?_
    refine lv_iadd hx hb dX12_strikes_23 ?_
    obtain ⟨q_10, hc_11, hF⟩ := bnd_some hF
    refine cV_v (As := [.int ((40 : Int32) + x0)]) (rest := []) C X (c_X12_jammed l D hT aT yT q_3.2 ((40 : Int32) + x0) q_10 hc_11 _) (cwV 1 hts (good_V q9_138 q9_140 q0_121 q1_9 q9_141) rfl rfl rfl (by decide +kernel) ⟨Nat.le_of_ble_eq_true rfl, Nat.le_of_ble_eq_true rfl⟩) (va_recv X.1 X.2.1 (ci := 12) (q0 := 0) rfl rfl) X.1 X.2.1 X.2.2.1 (free_all X) hl.1 rfl rfl (Nat.le_of_ble_eq_true rfl) dX12_strikes_24 ⟨Nat.le_of_ble_eq_true rfl, Nat.le_of_ble_eq_true rfl⟩ (fun t H1 locs1 ht hB hk hS => ?_)
    have X : Hx D (tX12 yT) A s H1 locs1 (wX12 hT aT yT q_10) := Hx_after_all X ht hB hS
    clear hk hS ht hB
    generalize H1 = H at X ⊢
    generalize locs1 = locs at X ⊢
    have hq := Option.some.inj hF
    subst hq
    exact rt_v C X dX12_strikes_27

/-! ### X12_tick1 -/
theorem dX12_tick1_0 : decode cX12_tick1 0 = .ok (.aload_n 0, 1) := by decide +kernel
theorem dX12_tick1_1 : decode cX12_tick1 1 = .ok (.dup, 1) := by decide +kernel
theorem dX12_tick1_2 : decode cX12_tick1 2 = .ok (.getfield 319, 3) := by decide +kernel
theorem dX12_tick1_5 : decode cX12_tick1 5 = .ok (.lconst 1, 1) := by decide +kernel
theorem dX12_tick1_6 : decode cX12_tick1 6 = .ok (.ladd, 1) := by decide +kernel
theorem dX12_tick1_7 : decode cX12_tick1 7 = .ok (.putfield 319, 3) := by decide +kernel
theorem dX12_tick1_10 : decode cX12_tick1 10 = .ok (.aload_n 0, 1) := by decide +kernel
theorem dX12_tick1_11 : decode cX12_tick1 11 = .ok (.getfield 319, 3) := by decide +kernel
theorem dX12_tick1_14 : decode cX12_tick1 14 = .ok (.ldc2_w 724, 3) := by decide +kernel
theorem dX12_tick1_17 : decode cX12_tick1 17 = .ok (.land, 1) := by decide +kernel
theorem dX12_tick1_18 : decode cX12_tick1 18 = .ok (.l2i, 1) := by decide +kernel
theorem dX12_tick1_19 : decode cX12_tick1 19 = .ok (.istore_n 1, 1) := by decide +kernel
theorem dX12_tick1_20 : decode cX12_tick1 20 = .ok (.iconst 0, 1) := by decide +kernel
theorem dX12_tick1_21 : decode cX12_tick1 21 = .ok (.istore_n 2, 1) := by decide +kernel
theorem dX12_tick1_22 : decode cX12_tick1 22 = .ok (.iload_n 2, 1) := by decide +kernel
theorem dX12_tick1_23 : decode cX12_tick1 23 = .ok (.aload_n 0, 1) := by decide +kernel
theorem dX12_tick1_24 : decode cX12_tick1 24 = .ok (.getfield 238, 3) := by decide +kernel
theorem dX12_tick1_27 : decode cX12_tick1 27 = .ok (.if_icmp .ge 38, 3) := by decide +kernel
theorem dX12_tick1_30 : decode cX12_tick1 30 = .ok (.aload_n 0, 1) := by decide +kernel
theorem dX12_tick1_31 : decode cX12_tick1 31 = .ok (.getfield 301, 3) := by decide +kernel
theorem dX12_tick1_34 : decode cX12_tick1 34 = .ok (.iload_n 2, 1) := by decide +kernel
theorem dX12_tick1_35 : decode cX12_tick1 35 = .ok (.aload_n 0, 1) := by decide +kernel
theorem dX12_tick1_36 : decode cX12_tick1 36 = .ok (.getfield 298, 3) := by decide +kernel
theorem dX12_tick1_39 : decode cX12_tick1 39 = .ok (.iload_n 2, 1) := by decide +kernel
theorem dX12_tick1_40 : decode cX12_tick1 40 = .ok (.laload, 1) := by decide +kernel
theorem dX12_tick1_41 : decode cX12_tick1 41 = .ok (.lastore, 1) := by decide +kernel
theorem dX12_tick1_42 : decode cX12_tick1 42 = .ok (.aload_n 0, 1) := by decide +kernel
theorem dX12_tick1_43 : decode cX12_tick1 43 = .ok (.getfield 304, 3) := by decide +kernel
theorem dX12_tick1_46 : decode cX12_tick1 46 = .ok (.bipush 32, 2) := by decide +kernel
theorem dX12_tick1_48 : decode cX12_tick1 48 = .ok (.iload_n 2, 1) := by decide +kernel
theorem dX12_tick1_49 : decode cX12_tick1 49 = .ok (.imul, 1) := by decide +kernel
theorem dX12_tick1_50 : decode cX12_tick1 50 = .ok (.iload_n 1, 1) := by decide +kernel
theorem dX12_tick1_51 : decode cX12_tick1 51 = .ok (.iadd, 1) := by decide +kernel
theorem dX12_tick1_52 : decode cX12_tick1 52 = .ok (.aload_n 0, 1) := by decide +kernel
theorem dX12_tick1_53 : decode cX12_tick1 53 = .ok (.getfield 298, 3) := by decide +kernel
theorem dX12_tick1_56 : decode cX12_tick1 56 = .ok (.iload_n 2, 1) := by decide +kernel
theorem dX12_tick1_57 : decode cX12_tick1 57 = .ok (.laload, 1) := by decide +kernel
theorem dX12_tick1_58 : decode cX12_tick1 58 = .ok (.lastore, 1) := by decide +kernel
theorem dX12_tick1_59 : decode cX12_tick1 59 = .ok (.iinc 2 1, 3) := by decide +kernel
theorem dX12_tick1_62 : decode cX12_tick1 62 = .ok (.goto (-40), 3) := by decide +kernel
theorem dX12_tick1_65 : decode cX12_tick1 65 = .ok (.iconst 0, 1) := by decide +kernel
theorem dX12_tick1_66 : decode cX12_tick1 66 = .ok (.istore_n 2, 1) := by decide +kernel
theorem dX12_tick1_67 : decode cX12_tick1 67 = .ok (.iload_n 2, 1) := by decide +kernel
theorem dX12_tick1_68 : decode cX12_tick1 68 = .ok (.aload_n 0, 1) := by decide +kernel
theorem dX12_tick1_69 : decode cX12_tick1 69 = .ok (.getfield 289, 3) := by decide +kernel
theorem dX12_tick1_72 : decode cX12_tick1 72 = .ok (.if_icmp .ge 140, 3) := by decide +kernel
theorem dX12_tick1_75 : decode cX12_tick1 75 = .ok (.aload_n 0, 1) := by decide +kernel
theorem dX12_tick1_76 : decode cX12_tick1 76 = .ok (.getfield 286, 3) := by decide +kernel
theorem dX12_tick1_79 : decode cX12_tick1 79 = .ok (.iload_n 2, 1) := by decide +kernel
theorem dX12_tick1_80 : decode cX12_tick1 80 = .ok (.iaload, 1) := by decide +kernel
theorem dX12_tick1_81 : decode cX12_tick1 81 = .ok (.istore_n 3, 1) := by decide +kernel
theorem dX12_tick1_82 : decode cX12_tick1 82 = .ok (.iload_n 3, 1) := by decide +kernel
theorem dX12_tick1_83 : decode cX12_tick1 83 = .ok (.bipush 100, 2) := by decide +kernel
theorem dX12_tick1_85 : decode cX12_tick1 85 = .ok (.if_icmp .lt 14, 3) := by decide +kernel
theorem dX12_tick1_88 : decode cX12_tick1 88 = .ok (.aload_n 0, 1) := by decide +kernel
theorem dX12_tick1_89 : decode cX12_tick1 89 = .ok (.iload_n 3, 1) := by decide +kernel
theorem dX12_tick1_90 : decode cX12_tick1 90 = .ok (.bipush 100, 2) := by decide +kernel
theorem dX12_tick1_92 : decode cX12_tick1 92 = .ok (.isub, 1) := by decide +kernel
theorem dX12_tick1_93 : decode cX12_tick1 93 = .ok (.invokevirtual 726, 3) := by decide +kernel
theorem dX12_tick1_96 : decode cX12_tick1 96 = .ok (.goto 110, 3) := by decide +kernel
theorem dX12_tick1_99 : decode cX12_tick1 99 = .ok (.aload_n 0, 1) := by decide +kernel
theorem dX12_tick1_100 : decode cX12_tick1 100 = .ok (.aload_n 0, 1) := by decide +kernel
theorem dX12_tick1_101 : decode cX12_tick1 101 = .ok (.getfield 262, 3) := by decide +kernel
theorem dX12_tick1_104 : decode cX12_tick1 104 = .ok (.iload_n 3, 1) := by decide +kernel
theorem dX12_tick1_105 : decode cX12_tick1 105 = .ok (.baload, 1) := by decide +kernel
theorem dX12_tick1_106 : decode cX12_tick1 106 = .ok (.ifCond .eq 12, 3) := by decide +kernel
theorem dX12_tick1_109 : decode cX12_tick1 109 = .ok (.aload_n 0, 1) := by decide +kernel
theorem dX12_tick1_110 : decode cX12_tick1 110 = .ok (.getfield 268, 3) := by decide +kernel
theorem dX12_tick1_113 : decode cX12_tick1 113 = .ok (.iload_n 3, 1) := by decide +kernel
theorem dX12_tick1_114 : decode cX12_tick1 114 = .ok (.iaload, 1) := by decide +kernel
theorem dX12_tick1_115 : decode cX12_tick1 115 = .ok (.goto 9, 3) := by decide +kernel
theorem dX12_tick1_118 : decode cX12_tick1 118 = .ok (.aload_n 0, 1) := by decide +kernel
theorem dX12_tick1_119 : decode cX12_tick1 119 = .ok (.getfield 265, 3) := by decide +kernel
theorem dX12_tick1_122 : decode cX12_tick1 122 = .ok (.iload_n 3, 1) := by decide +kernel
theorem dX12_tick1_123 : decode cX12_tick1 123 = .ok (.iaload, 1) := by decide +kernel
theorem dX12_tick1_124 : decode cX12_tick1 124 = .ok (.aload_n 0, 1) := by decide +kernel
theorem dX12_tick1_125 : decode cX12_tick1 125 = .ok (.getfield 262, 3) := by decide +kernel
theorem dX12_tick1_128 : decode cX12_tick1 128 = .ok (.iload_n 3, 1) := by decide +kernel
theorem dX12_tick1_129 : decode cX12_tick1 129 = .ok (.baload, 1) := by decide +kernel
theorem dX12_tick1_130 : decode cX12_tick1 130 = .ok (.ifCond .eq 12, 3) := by decide +kernel
theorem dX12_tick1_133 : decode cX12_tick1 133 = .ok (.aload_n 0, 1) := by decide +kernel
theorem dX12_tick1_134 : decode cX12_tick1 134 = .ok (.getfield 271, 3) := by decide +kernel
theorem dX12_tick1_137 : decode cX12_tick1 137 = .ok (.iload_n 3, 1) := by decide +kernel
theorem dX12_tick1_138 : decode cX12_tick1 138 = .ok (.iaload, 1) := by decide +kernel
theorem dX12_tick1_139 : decode cX12_tick1 139 = .ok (.goto 9, 3) := by decide +kernel
theorem dX12_tick1_142 : decode cX12_tick1 142 = .ok (.aload_n 0, 1) := by decide +kernel
theorem dX12_tick1_143 : decode cX12_tick1 143 = .ok (.getfield 268, 3) := by decide +kernel
theorem dX12_tick1_146 : decode cX12_tick1 146 = .ok (.iload_n 3, 1) := by decide +kernel
theorem dX12_tick1_147 : decode cX12_tick1 147 = .ok (.iaload, 1) := by decide +kernel
theorem dX12_tick1_148 : decode cX12_tick1 148 = .ok (.invokevirtual 646, 3) := by decide +kernel
theorem dX12_tick1_151 : decode cX12_tick1 151 = .ok (.ifCond .ne 11, 3) := by decide +kernel
theorem dX12_tick1_154 : decode cX12_tick1 154 = .ok (.aload_n 0, 1) := by decide +kernel
theorem dX12_tick1_155 : decode cX12_tick1 155 = .ok (.iload_n 3, 1) := by decide +kernel
theorem dX12_tick1_156 : decode cX12_tick1 156 = .ok (.invokevirtual 649, 3) := by decide +kernel
theorem dX12_tick1_159 : decode cX12_tick1 159 = .ok (.goto 47, 3) := by decide +kernel
theorem dX12_tick1_162 : decode cX12_tick1 162 = .ok (.aload_n 0, 1) := by decide +kernel
theorem dX12_tick1_163 : decode cX12_tick1 163 = .ok (.getfield 298, 3) := by decide +kernel
theorem dX12_tick1_166 : decode cX12_tick1 166 = .ok (.iload_n 3, 1) := by decide +kernel
theorem dX12_tick1_167 : decode cX12_tick1 167 = .ok (.aload_n 0, 1) := by decide +kernel
theorem dX12_tick1_168 : decode cX12_tick1 168 = .ok (.aload_n 0, 1) := by decide +kernel
theorem dX12_tick1_169 : decode cX12_tick1 169 = .ok (.getfield 343, 3) := by decide +kernel
theorem dX12_tick1_172 : decode cX12_tick1 172 = .ok (.aload_n 0, 1) := by decide +kernel
theorem dX12_tick1_173 : decode cX12_tick1 173 = .ok (.getfield 262, 3) := by decide +kernel
theorem dX12_tick1_176 : decode cX12_tick1 176 = .ok (.iload_n 3, 1) := by decide +kernel
theorem dX12_tick1_177 : decode cX12_tick1 177 = .ok (.baload, 1) := by decide +kernel
theorem dX12_tick1_178 : decode cX12_tick1 178 = .ok (.ifCond .eq 12, 3) := by decide +kernel
theorem dX12_tick1_181 : decode cX12_tick1 181 = .ok (.aload_n 0, 1) := by decide +kernel
theorem dX12_tick1_182 : decode cX12_tick1 182 = .ok (.getfield 277, 3) := by decide +kernel
theorem dX12_tick1_185 : decode cX12_tick1 185 = .ok (.iload_n 3, 1) := by decide +kernel
theorem dX12_tick1_186 : decode cX12_tick1 186 = .ok (.iaload, 1) := by decide +kernel
theorem dX12_tick1_187 : decode cX12_tick1 187 = .ok (.goto 9, 3) := by decide +kernel
theorem dX12_tick1_190 : decode cX12_tick1 190 = .ok (.aload_n 0, 1) := by decide +kernel
theorem dX12_tick1_191 : decode cX12_tick1 191 = .ok (.getfield 274, 3) := by decide +kernel
theorem dX12_tick1_194 : decode cX12_tick1 194 = .ok (.iload_n 3, 1) := by decide +kernel
theorem dX12_tick1_195 : decode cX12_tick1 195 = .ok (.iaload, 1) := by decide +kernel
theorem dX12_tick1_196 : decode cX12_tick1 196 = .ok (.aload_n 0, 1) := by decide +kernel
theorem dX12_tick1_197 : decode cX12_tick1 197 = .ok (.getfield 259, 3) := by decide +kernel
theorem dX12_tick1_200 : decode cX12_tick1 200 = .ok (.iload_n 3, 1) := by decide +kernel
theorem dX12_tick1_201 : decode cX12_tick1 201 = .ok (.iaload, 1) := by decide +kernel
theorem dX12_tick1_202 : decode cX12_tick1 202 = .ok (.invokevirtual 488, 3) := by decide +kernel
theorem dX12_tick1_205 : decode cX12_tick1 205 = .ok (.lastore, 1) := by decide +kernel
theorem dX12_tick1_206 : decode cX12_tick1 206 = .ok (.iinc 2 1, 3) := by decide +kernel
theorem dX12_tick1_209 : decode cX12_tick1 209 = .ok (.goto (-142), 3) := by decide +kernel
theorem dX12_tick1_212 : decode cX12_tick1 212 = .ok (.return_, 1) := by decide +kernel
abbrev R_X12_tick1 : Room := ({ frames := 10, cells := 0, slots := 0, locals := 272 } : Room)
def b_X12_tick1_206 (n : Nat) (rec : (Gs → Int32 → Int32 → Option (Gs)) × (Gs → Int32 → Option (Gs))) (gT : Gs) (v2 : Int32) : Option (Gs) :=
  rec.2 gT (v2 + (1 : Int32))
def b_X12_tick1_196 (n : Nat) (rec : (Gs → Int32 → Int32 → Option (Gs)) × (Gs → Int32 → Option (Gs))) (gT : Gs) (v2 : Int32) (v3 : Int32) (s0 : Int32) (s1 : Int64) (s3 : Int32) : Option (Gs) :=
  grd (inB v3 40) (bnd (f_X12_become n gT s1 s0 (gIA gT 67 v3.toNatClampNeg)) (fun q_11 => grd (inB s3 40) (b_X12_tick1_206 n rec (sLA q_11.2 80 (vp_updL (gLA q_11.2 80) s3.toNatClampNeg q_11.1)) v2)))
def b_X12_tick1_148 (n : Nat) (rec : (Gs → Int32 → Int32 → Option (Gs)) × (Gs → Int32 → Option (Gs))) (gT : Gs) (v2 : Int32) (v3 : Int32) (s0 : Int32) (s1 : Int32) : Option (Gs) :=
  bnd (f_X12_works n gT s1 s0) (fun q_6 => if q_6.1 = 0 then (bnd (f_X12_jammed q_6.2 v3) (fun q_15 => b_X12_tick1_206 n rec q_15 v2)) else (grd (inB v3 40) (if (gIA q_6.2 68 v3.toNatClampNeg) = 0 then (grd (inB v3 40) (b_X12_tick1_196 n rec q_6.2 v2 v3 (gIA q_6.2 72 v3.toNatClampNeg) (gL q_6.2 94) v3)) else (grd (inB v3 40) (b_X12_tick1_196 n rec q_6.2 v2 v3 (gIA q_6.2 73 v3.toNatClampNeg) (gL q_6.2 94) v3)))))
def b_X12_tick1_124 (n : Nat) (rec : (Gs → Int32 → Int32 → Option (Gs)) × (Gs → Int32 → Option (Gs))) (gT : Gs) (v2 : Int32) (v3 : Int32) (s0 : Int32) : Option (Gs) :=
  grd (inB v3 40) (if (gIA gT 68 v3.toNatClampNeg) = 0 then (grd (inB v3 40) (b_X12_tick1_148 n rec gT v2 v3 (gIA gT 70 v3.toNatClampNeg) s0)) else (grd (inB v3 40) (b_X12_tick1_148 n rec gT v2 v3 (gIA gT 71 v3.toNatClampNeg) s0)))
def h_X12_tick1_67 (n : Nat) (rec : (Gs → Int32 → Int32 → Option (Gs)) × (Gs → Int32 → Option (Gs))) (gT : Gs) (v2 : Int32) : Option (Gs) :=
  if (gI gT 77) ≤ v2 then (some gT) else (grd (inB v2 52) (if (gIA gT 76 v2.toNatClampNeg) < (100 : Int32) then (grd (inB (gIA gT 76 v2.toNatClampNeg) 40) (if (gIA gT 68 (gIA gT 76 v2.toNatClampNeg).toNatClampNeg) = 0 then (grd (inB (gIA gT 76 v2.toNatClampNeg) 40) (b_X12_tick1_124 n rec gT v2 (gIA gT 76 v2.toNatClampNeg) (gIA gT 69 (gIA gT 76 v2.toNatClampNeg).toNatClampNeg))) else (grd (inB (gIA gT 76 v2.toNatClampNeg) 40) (b_X12_tick1_124 n rec gT v2 (gIA gT 76 v2.toNatClampNeg) (gIA gT 70 (gIA gT 76 v2.toNatClampNeg).toNatClampNeg))))) else (bnd (f_X12_strikes n gT ((gIA gT 76 v2.toNatClampNeg) - (100 : Int32))) (fun q_19 => b_X12_tick1_206 n rec q_19 v2))))
def h_X12_tick1_22 (n : Nat) (rec : (Gs → Int32 → Int32 → Option (Gs)) × (Gs → Int32 → Option (Gs))) (gT : Gs) (v1 : Int32) (v2 : Int32) : Option (Gs) :=
  if (gI gT 60) ≤ v2 then (rec.2 gT (0 : Int32)) else (grd (inB v2 40) (grd (inB v2 40) (grd (inB v2 40) (grd (inB (((32 : Int32) * v2) + v1) 1280) (rec.1 (sLA (sLA gT 81 (vp_updL (gLA gT 81) v2.toNatClampNeg (gLA gT 80 v2.toNatClampNeg))) 82 (vp_updL (gLA gT 82) (((32 : Int32) * v2) + v1).toNatClampNeg (gLA gT 80 v2.toNatClampNeg))) v1 (v2 + (1 : Int32)))))))
def L_X12_tick1 (n : Nat) : Nat → ((Gs → Int32 → Int32 → Option (Gs)) × (Gs → Int32 → Option (Gs)))
  | 0 => ((fun _ _ _ => none), (fun _ _ => none))
  | k + 1 => (h_X12_tick1_22 n (L_X12_tick1 n k), h_X12_tick1_67 n (L_X12_tick1 n k))
def f_X12_tick1 (n : Nat) (gT : Gs) : Option (Gs) :=
  (L_X12_tick1 n n).1 (sL gT 87 ((gL gT 87) + (1 : Int64))) ((((gL gT 87) + (1 : Int64)) &&& (31 : Int64)).toInt32) (0 : Int32)
def S_X12_tick1_206 (l : Launch) (D : Dx) (hT : Nat) (aT : Nat → Nat) (yT : Nat → ClassId) (fn : Gs → Int32 → Option (Gs)) : Prop :=
  ∀ {p : Program} {e : Env} {s : State} {m : MethodId} {args : Array Value} {below : List Frame} {meth : Method} {c : Code} {H : Heap} {locs : List Loc} {A : Nat → Prop} {ls : Array Slot} {gT : Gs} {v2 : Int32} {q : Gs}, Cx p s m args meth c cX12_tick1 none 4 RX12 lw_all → Hx D (tX12 yT) A s H locs (wX12 hT aT yT gT) → lv_has ls 4 [(0, .ref hT), (2, .int v2)] → fn gT v2 = some q → W p l e R_X12_tick1 s m args below meth c H locs 0 0 (MQ below (QV D A (wX12 hT aT yT q)) args s 0 0 A) (F0 m 206 ls [])
def S_X12_tick1_196 (l : Launch) (D : Dx) (hT : Nat) (aT : Nat → Nat) (yT : Nat → ClassId) (fn : Gs → Int32 → Int32 → Int32 → Int64 → Int32 → Option (Gs)) : Prop :=
  ∀ {p : Program} {e : Env} {s : State} {m : MethodId} {args : Array Value} {below : List Frame} {meth : Method} {c : Code} {H : Heap} {locs : List Loc} {A : Nat → Prop} {ls : Array Slot} {gT : Gs} {v2 : Int32} {v3 : Int32} {s0 : Int32} {s1 : Int64} {s3 : Int32} {q : Gs}, Cx p s m args meth c cX12_tick1 none 4 RX12 lw_all → Hx D (tX12 yT) A s H locs (wX12 hT aT yT gT) → lv_has ls 4 [(0, .ref hT), (2, .int v2), (3, .int v3)] → fn gT v2 v3 s0 s1 s3 = some q → W p l e R_X12_tick1 s m args below meth c H locs 0 0 (MQ below (QV D A (wX12 hT aT yT q)) args s 0 0 A) (F0 m 196 ls [.int s0, .long s1, .ref hT, .int s3, .ref (aT 80)])
def S_X12_tick1_148 (l : Launch) (D : Dx) (hT : Nat) (aT : Nat → Nat) (yT : Nat → ClassId) (fn : Gs → Int32 → Int32 → Int32 → Int32 → Option (Gs)) : Prop :=
  ∀ {p : Program} {e : Env} {s : State} {m : MethodId} {args : Array Value} {below : List Frame} {meth : Method} {c : Code} {H : Heap} {locs : List Loc} {A : Nat → Prop} {ls : Array Slot} {gT : Gs} {v2 : Int32} {v3 : Int32} {s0 : Int32} {s1 : Int32} {q : Gs}, Cx p s m args meth c cX12_tick1 none 4 RX12 lw_all → Hx D (tX12 yT) A s H locs (wX12 hT aT yT gT) → lv_has ls 4 [(0, .ref hT), (2, .int v2), (3, .int v3)] → fn gT v2 v3 s0 s1 = some q → W p l e R_X12_tick1 s m args below meth c H locs 0 0 (MQ below (QV D A (wX12 hT aT yT q)) args s 0 0 A) (F0 m 148 ls [.int s0, .int s1, .ref hT])
def S_X12_tick1_124 (l : Launch) (D : Dx) (hT : Nat) (aT : Nat → Nat) (yT : Nat → ClassId) (fn : Gs → Int32 → Int32 → Int32 → Option (Gs)) : Prop :=
  ∀ {p : Program} {e : Env} {s : State} {m : MethodId} {args : Array Value} {below : List Frame} {meth : Method} {c : Code} {H : Heap} {locs : List Loc} {A : Nat → Prop} {ls : Array Slot} {gT : Gs} {v2 : Int32} {v3 : Int32} {s0 : Int32} {q : Gs}, Cx p s m args meth c cX12_tick1 none 4 RX12 lw_all → Hx D (tX12 yT) A s H locs (wX12 hT aT yT gT) → lv_has ls 4 [(0, .ref hT), (2, .int v2), (3, .int v3)] → fn gT v2 v3 s0 = some q → W p l e R_X12_tick1 s m args below meth c H locs 0 0 (MQ below (QV D A (wX12 hT aT yT q)) args s 0 0 A) (F0 m 124 ls [.int s0, .ref hT])
def S_X12_tick1_67 (l : Launch) (D : Dx) (hT : Nat) (aT : Nat → Nat) (yT : Nat → ClassId) (fn : Gs → Int32 → Option (Gs)) : Prop :=
  ∀ {p : Program} {e : Env} {s : State} {m : MethodId} {args : Array Value} {below : List Frame} {meth : Method} {c : Code} {H : Heap} {locs : List Loc} {A : Nat → Prop} {ls : Array Slot} {gT : Gs} {v2 : Int32} {q : Gs}, Cx p s m args meth c cX12_tick1 none 4 RX12 lw_all → Hx D (tX12 yT) A s H locs (wX12 hT aT yT gT) → lv_has ls 4 [(0, .ref hT), (2, .int v2)] → fn gT v2 = some q → W p l e R_X12_tick1 s m args below meth c H locs 0 0 (MQ below (QV D A (wX12 hT aT yT q)) args s 0 0 A) (F0 m 67 ls [])
def S_X12_tick1_22 (l : Launch) (D : Dx) (hT : Nat) (aT : Nat → Nat) (yT : Nat → ClassId) (fn : Gs → Int32 → Int32 → Option (Gs)) : Prop :=
  ∀ {p : Program} {e : Env} {s : State} {m : MethodId} {args : Array Value} {below : List Frame} {meth : Method} {c : Code} {H : Heap} {locs : List Loc} {A : Nat → Prop} {ls : Array Slot} {gT : Gs} {v1 : Int32} {v2 : Int32} {q : Gs}, Cx p s m args meth c cX12_tick1 none 4 RX12 lw_all → Hx D (tX12 yT) A s H locs (wX12 hT aT yT gT) → lv_has ls 4 [(0, .ref hT), (1, .int v1), (2, .int v2)] → fn gT v1 v2 = some q → W p l e R_X12_tick1 s m args below meth c H locs 0 0 (MQ below (QV D A (wX12 hT aT yT q)) args s 0 0 A) (F0 m 22 ls [])
def SH_X12_tick1 (l : Launch) (D : Dx) (hT : Nat) (aT : Nat → Nat) (yT : Nat → ClassId) (rec : (Gs → Int32 → Int32 → Option (Gs)) × (Gs → Int32 → Option (Gs))) : Prop := S_X12_tick1_22 l D hT aT yT rec.1 ∧ S_X12_tick1_67 l D hT aT yT rec.2
set_option maxHeartbeats 4000000 in
set_option maxRecDepth 100000 in
theorem k_X12_tick1_206 (l : Launch) (D : Dx) (hT : Nat) (aT : Nat → Nat) (yT : Nat → ClassId) (n : Nat) (rec : (Gs → Int32 → Int32 → Option (Gs)) × (Gs → Int32 → Option (Gs))) (IH : SH_X12_tick1 l D hT aT yT rec) : S_X12_tick1_206 l D hT aT yT (b_X12_tick1_206 n rec) := by
  intro p e s m args below meth c H locs A ls gT v2 q C X hl hF
  obtain ⟨hx, hb, hr, hml, hown, hts, hlk⟩ := id C
  unfold b_X12_tick1_206 at hF
  refine lv_iinc (v := v2 + (1 : Int32)) (lv' := [(2, .int (v2 + (1 : Int32))), (0, .ref hT)]) hx hb dX12_tick1_206 hl (k := 1) rfl rfl (by decide) rfl (fun ls hl => ?_)
  refine lv_goto (tgt := 67) hx hb dX12_tick1_209 (by decide) ?_
  exact IH.2 C X (lv_sub hl [1, 0] rfl) hF
set_option maxHeartbeats 4000000 in
set_option maxRecDepth 100000 in
theorem k_X12_tick1_196 (l : Launch) (D : Dx) (hT : Nat) (aT : Nat → Nat) (yT : Nat → ClassId) (n : Nat) (rec : (Gs → Int32 → Int32 → Option (Gs)) × (Gs → Int32 → Option (Gs))) (IH : SH_X12_tick1 l D hT aT yT rec) : S_X12_tick1_196 l D hT aT yT (b_X12_tick1_196 n rec) := by
  intro p e s m args below meth c H locs A ls gT v2 v3 s0 s1 s3 q C X hl hF
  obtain ⟨hx, hb, hr, hml, hown, hts, hlk⟩ := id C
  unfold b_X12_tick1_196 at hF
  refine lv_aload_n hx hb dX12_tick1_196 rfl (lv_at hl 0 rfl) ?_
  refine va_get (D := D.1) (ci := 12) (v := .ref (aT 67)) (C := RX12) (T := TX12) (N := 114) hx hb hts wi_X12 hown X.1 X.2.1 0 rfl rfl 67 (by decide) (hts _ q7_21) (fun _ h9 => h9) (fl_get (by decide)) dX12_tick1_197 ?_
  refine lv_iload_n hx hb dX12_tick1_200 rfl (lv_at hl 2 rfl) ?_
  obtain ⟨h_10, hF⟩ := grd_some hF
  refine va_iald (D := D.1) (f := gIA gT 67) hx hb X.1 X.2.1 42 41 rfl rfl (inB_ok h_10) dX12_tick1_201 ?_
  obtain ⟨q_11, hc_12, hF⟩ := bnd_some hF
  refine cV_l (As := [.long s1, .int s0, .int (gIA gT 67 v3.toNatClampNeg)]) (rest := [.int s3, .ref (aT 80)]) C X (c_X12_become l D hT aT yT n gT s1 s0 (gIA gT 67 v3.toNatClampNeg) q_11 hc_12 _) (cwV 3 hts (good_V q8_136 q8_138 q0_73 q1_9 q8_139) rfl rfl rfl (by decide +kernel) ⟨Nat.le_of_ble_eq_true rfl, Nat.le_of_ble_eq_true rfl⟩) (va_recv X.1 X.2.1 (ci := 12) (q0 := 0) rfl rfl) X.1 X.2.1 X.2.2.1 (free_all X) hl.1 rfl rfl (Nat.le_of_ble_eq_true rfl) dX12_tick1_202 ⟨Nat.le_of_ble_eq_true rfl, Nat.le_of_ble_eq_true rfl⟩ (fun t H1 locs1 ht hB hk hS => ?_)
  have X : Hx D (tX12 yT) A s H1 locs1 (wX12 hT aT yT q_11.2) := Hx_after_all X ht hB hS
  clear hk hS ht hB
  generalize H1 = H at X ⊢
  generalize locs1 = locs at X ⊢
  obtain ⟨h_13, hF⟩ := grd_some hF
  refine va_last (D := D.1) (f := gLA q_11.2 80) hx hb X.1 X.2.1 X.2.2.1 X.2.2.2.1 54 53 rfl rfl (inB_ok h_13) dX12_tick1_205 (fun H locs hP hD hS => ?_)
  have X : Hx D (tX12 yT) A s H locs (wX12 hT aT yT (sLA q_11.2 80 (vp_updL (gLA q_11.2 80) s3.toNatClampNeg q_11.1))) := Hx_set X (wG_sLA (i := 53) (k := 80) ndX12 rfl rfl) hP hD hS
  exact (k_X12_tick1_206 l D hT aT yT n rec IH) C X (lv_sub hl [0, 1] rfl) hF
set_option maxHeartbeats 4000000 in
set_option maxRecDepth 100000 in
theorem k_X12_tick1_148 (l : Launch) (D : Dx) (hT : Nat) (aT : Nat → Nat) (yT : Nat → ClassId) (n : Nat) (rec : (Gs → Int32 → Int32 → Option (Gs)) × (Gs → Int32 → Option (Gs))) (IH : SH_X12_tick1 l D hT aT yT rec) : S_X12_tick1_148 l D hT aT yT (b_X12_tick1_148 n rec) := by
  intro p e s m args below meth c H locs A ls gT v2 v3 s0 s1 q C X hl hF
  obtain ⟨hx, hb, hr, hml, hown, hts, hlk⟩ := id C
  unfold b_X12_tick1_148 at hF
  obtain ⟨q_6, hc_7, hF⟩ := bnd_some hF
  refine cV_i (As := [.int s1, .int s0]) (rest := []) C X (c_X12_works l D hT aT yT n gT s1 s0 q_6 hc_7 _) (cwV 2 hts (good_V q9_69 q9_71 q0_109 q1_9 q9_72) rfl rfl rfl (by decide +kernel) ⟨Nat.le_of_ble_eq_true rfl, Nat.le_of_ble_eq_true rfl⟩) (va_recv X.1 X.2.1 (ci := 12) (q0 := 0) rfl rfl) X.1 X.2.1 X.2.2.1 (free_all X) hl.1 rfl rfl (Nat.le_of_ble_eq_true rfl) dX12_tick1_148 ⟨Nat.le_of_ble_eq_true rfl, Nat.le_of_ble_eq_true rfl⟩ (fun t H1 locs1 ht hB hk hS => ?_)
  have X : Hx D (tX12 yT) A s H1 locs1 (wX12 hT aT yT q_6.2) := Hx_after_all X ht hB hS
  clear hk hS ht hB
  generalize H1 = H at X ⊢
  generalize locs1 = locs at X ⊢
  refine lv_if_ne (tgt := 162) hx hb dX12_tick1_151 (by decide) (fun c => ?_) (fun c => ?_)
  · replace hF := iF c hF
    refine lv_aload_n hx hb dX12_tick1_162 rfl (lv_at hl 0 rfl) ?_
    refine va_get (D := D.1) (ci := 12) (v := .ref (aT 80)) (C := RX12) (T := TX12) (N := 114) hx hb hts wi_X12 hown X.1 X.2.1 0 rfl rfl 80 (by decide) (hts _ q7_34) (fun _ h9 => h9) (fl_get (by decide)) dX12_tick1_163 ?_
    refine lv_iload_n hx hb dX12_tick1_166 rfl (lv_at hl 2 rfl) ?_
    refine lv_aload_n hx hb dX12_tick1_167 rfl (lv_at hl 0 rfl) ?_
    refine lv_aload_n hx hb dX12_tick1_168 rfl (lv_at hl 0 rfl) ?_
    refine va_get (D := D.1) (ci := 12) (v := .long (gL q_6.2 94)) (C := RX12) (T := TX12) (N := 114) hx hb hts wi_X12 hown X.1 X.2.1 0 rfl rfl 94 (by decide) (hts _ q7_48) (fun _ h9 => h9) (fl_get (by decide)) dX12_tick1_169 ?_
    refine lv_aload_n hx hb dX12_tick1_172 rfl (lv_at hl 0 rfl) ?_
    refine va_get (D := D.1) (ci := 12) (v := .ref (aT 68)) (C := RX12) (T := TX12) (N := 114) hx hb hts wi_X12 hown X.1 X.2.1 0 rfl rfl 68 (by decide) (hts _ q7_22) (fun _ h9 => h9) (fl_get (by decide)) dX12_tick1_173 ?_
    refine lv_iload_n hx hb dX12_tick1_176 rfl (lv_at hl 2 rfl) ?_
    obtain ⟨h_8, hF⟩ := grd_some hF
    refine va_zald (D := D.1) (f := gIA q_6.2 68) hx hb X.1 X.2.1 43 42 rfl rfl (inB_ok h_8) dX12_tick1_177 ?_
    refine lv_if_eq (tgt := 190) hx hb dX12_tick1_178 (by decide) (fun c => ?_) (fun c => ?_)
    · replace hF := iT c hF
      refine lv_aload_n hx hb dX12_tick1_190 rfl (lv_at hl 0 rfl) ?_
      refine va_get (D := D.1) (ci := 12) (v := .ref (aT 72)) (C := RX12) (T := TX12) (N := 114) hx hb hts wi_X12 hown X.1 X.2.1 0 rfl rfl 72 (by decide) (hts _ q7_26) (fun _ h9 => h9) (fl_get (by decide)) dX12_tick1_191 ?_
      refine lv_iload_n hx hb dX12_tick1_194 rfl (lv_at hl 2 rfl) ?_
      obtain ⟨h_9, hF⟩ := grd_some hF
      refine va_iald (D := D.1) (f := gIA q_6.2 72) hx hb X.1 X.2.1 47 46 rfl rfl (inB_ok h_9) dX12_tick1_195 ?_
      exact (k_X12_tick1_196 l D hT aT yT n rec IH) C X (lv_sub hl [0, 1, 2] rfl) hF
    · replace hF := iF c hF
      refine lv_aload_n hx hb dX12_tick1_181 rfl (lv_at hl 0 rfl) ?_
      refine va_get (D := D.1) (ci := 12) (v := .ref (aT 73)) (C := RX12) (T := TX12) (N := 114) hx hb hts wi_X12 hown X.1 X.2.1 0 rfl rfl 73 (by decide) (hts _ q7_27) (fun _ h9 => h9) (fl_get (by decide)) dX12_tick1_182 ?_
      refine lv_iload_n hx hb dX12_tick1_185 rfl (lv_at hl 2 rfl) ?_
      obtain ⟨h_14, hF⟩ := grd_some hF
      refine va_iald (D := D.1) (f := gIA q_6.2 73) hx hb X.1 X.2.1 48 47 rfl rfl (inB_ok h_14) dX12_tick1_186 ?_
      refine lv_goto (tgt := 196) hx hb dX12_tick1_187 (by decide) ?_
      exact (k_X12_tick1_196 l D hT aT yT n rec IH) C X (lv_sub hl [0, 1, 2] rfl) hF
  · replace hF := iT c hF
    refine lv_aload_n hx hb dX12_tick1_154 rfl (lv_at hl 0 rfl) ?_
    refine lv_iload_n hx hb dX12_tick1_155 rfl (lv_at hl 2 rfl) ?_
    obtain ⟨q_15, hc_16, hF⟩ := bnd_some hF
    refine cV_v (As := [.int v3]) (rest := []) C X (c_X12_jammed l D hT aT yT q_6.2 v3 q_15 hc_16 _) (cwV 1 hts (good_V q9_138 q9_140 q0_121 q1_9 q9_141) rfl rfl rfl (by decide +kernel) ⟨Nat.le_of_ble_eq_true rfl, Nat.le_of_ble_eq_true rfl⟩) (va_recv X.1 X.2.1 (ci := 12) (q0 := 0) rfl rfl) X.1 X.2.1 X.2.2.1 (free_all X) hl.1 rfl rfl (Nat.le_of_ble_eq_true rfl) dX12_tick1_156 ⟨Nat.le_of_ble_eq_true rfl, Nat.le_of_ble_eq_true rfl⟩ (fun t H1 locs1 ht hB hk hS => ?_)
    have X : Hx D (tX12 yT) A s H1 locs1 (wX12 hT aT yT q_15) := Hx_after_all X ht hB hS
    clear hk hS ht hB
    generalize H1 = H at X ⊢
    generalize locs1 = locs at X ⊢
    refine lv_goto (tgt := 206) hx hb dX12_tick1_159 (by decide) ?_
    exact (k_X12_tick1_206 l D hT aT yT n rec IH) C X (lv_sub hl [0, 1] rfl) hF
set_option maxHeartbeats 4000000 in
set_option maxRecDepth 100000 in
theorem k_X12_tick1_124 (l : Launch) (D : Dx) (hT : Nat) (aT : Nat → Nat) (yT : Nat → ClassId) (n : Nat) (rec : (Gs → Int32 → Int32 → Option (Gs)) × (Gs → Int32 → Option (Gs))) (IH : SH_X12_tick1 l D hT aT yT rec) : S_X12_tick1_124 l D hT aT yT (b_X12_tick1_124 n rec) := by
  intro p e s m args below meth c H locs A ls gT v2 v3 s0 q C X hl hF
  obtain ⟨hx, hb, hr, hml, hown, hts, hlk⟩ := id C
  unfold b_X12_tick1_124 at hF
  refine lv_aload_n hx hb dX12_tick1_124 rfl (lv_at hl 0 rfl) ?_
  refine va_get (D := D.1) (ci := 12) (v := .ref (aT 68)) (C := RX12) (T := TX12) (N := 114) hx hb hts wi_X12 hown X.1 X.2.1 0 rfl rfl 68 (by decide) (hts _ q7_22) (fun _ h9 => h9) (fl_get (by decide)) dX12_tick1_125 ?_
  refine lv_iload_n hx hb dX12_tick1_128 rfl (lv_at hl 2 rfl) ?_
  obtain ⟨h_4, hF⟩ := grd_some hF
  refine va_zald (D := D.1) (f := gIA gT 68) hx hb X.1 X.2.1 43 42 rfl rfl (inB_ok h_4) dX12_tick1_129 ?_
  refine lv_if_eq (tgt := 142) hx hb dX12_tick1_130 (by decide) (fun c => ?_) (fun c => ?_)
  · replace hF := iT c hF
    refine lv_aload_n hx hb dX12_tick1_142 rfl (lv_at hl 0 rfl) ?_
    refine va_get (D := D.1) (ci := 12) (v := .ref (aT 70)) (C := RX12) (T := TX12) (N := 114) hx hb hts wi_X12 hown X.1 X.2.1 0 rfl rfl 70 (by decide) (hts _ q7_24) (fun _ h9 => h9) (fl_get (by decide)) dX12_tick1_143 ?_
    refine lv_iload_n hx hb dX12_tick1_146 rfl (lv_at hl 2 rfl) ?_
    obtain ⟨h_5, hF⟩ := grd_some hF
    refine va_iald (D := D.1) (f := gIA gT 70) hx hb X.1 X.2.1 45 44 rfl rfl (inB_ok h_5) dX12_tick1_147 ?_
    exact (k_X12_tick1_148 l D hT aT yT n rec IH) C X (lv_sub hl [0, 1, 2] rfl) hF
  · replace hF := iF c hF
    refine lv_aload_n hx hb dX12_tick1_133 rfl (lv_at hl 0 rfl) ?_
    refine va_get (D := D.1) (ci := 12) (v := .ref (aT 71)) (C := RX12) (T := TX12) (N := 114) hx hb hts wi_X12 hown X.1 X.2.1 0 rfl rfl 71 (by decide) (hts _ q7_25) (fun _ h9 => h9) (fl_get (by decide)) dX12_tick1_134 ?_
    refine lv_iload_n hx hb dX12_tick1_137 rfl (lv_at hl 2 rfl) ?_
    obtain ⟨h_17, hF⟩ := grd_some hF
    refine va_iald (D := D.1) (f := gIA gT 71) hx hb X.1 X.2.1 46 45 rfl rfl (inB_ok h_17) dX12_tick1_138 ?_
    refine lv_goto (tgt := 148) hx hb dX12_tick1_139 (by decide) ?_
    exact (k_X12_tick1_148 l D hT aT yT n rec IH) C X (lv_sub hl [0, 1, 2] rfl) hF
set_option maxHeartbeats 4000000 in
set_option maxRecDepth 100000 in
theorem k_X12_tick1_67 (l : Launch) (D : Dx) (hT : Nat) (aT : Nat → Nat) (yT : Nat → ClassId) (n : Nat) (rec : (Gs → Int32 → Int32 → Option (Gs)) × (Gs → Int32 → Option (Gs))) (IH : SH_X12_tick1 l D hT aT yT rec) : S_X12_tick1_67 l D hT aT yT (h_X12_tick1_67 n rec) := by
  intro p e s m args below meth c H locs A ls gT v2 q C X hl hF
  obtain ⟨hx, hb, hr, hml, hown, hts, hlk⟩ := id C
  unfold h_X12_tick1_67 at hF
  refine lv_iload_n hx hb dX12_tick1_67 rfl (lv_at hl 1 rfl) ?_
  refine lv_aload_n hx hb dX12_tick1_68 rfl (lv_at hl 0 rfl) ?_
  refine va_get (D := D.1) (ci := 12) (v := .int (gI gT 77)) (C := RX12) (T := TX12) (N := 114) hx hb hts wi_X12 hown X.1 X.2.1 0 rfl rfl 77 (by decide) (hts _ q7_31) (fun _ h9 => h9) (fl_get (by decide)) dX12_tick1_69 ?_
  refine lv_icmp_ge (tgt := 212) hx hb dX12_tick1_72 (by decide) (fun c => ?_) (fun c => ?_)
  · replace hF := iT c hF
    have hq := Option.some.inj hF
    subst hq
    exact rt_v C X dX12_tick1_212
  · replace hF := iF c hF
    refine lv_aload_n hx hb dX12_tick1_75 rfl (lv_at hl 0 rfl) ?_
    refine va_get (D := D.1) (ci := 12) (v := .ref (aT 76)) (C := RX12) (T := TX12) (N := 114) hx hb hts wi_X12 hown X.1 X.2.1 0 rfl rfl 76 (by decide) (hts _ q7_30) (fun _ h9 => h9) (fl_get (by decide)) dX12_tick1_76 ?_
    refine lv_iload_n hx hb dX12_tick1_79 rfl (lv_at hl 1 rfl) ?_
    obtain ⟨h_1, hF⟩ := grd_some hF
    refine va_iald (D := D.1) (f := gIA gT 76) hx hb X.1 X.2.1 51 50 rfl rfl (inB_ok h_1) dX12_tick1_80 ?_
    refine lv_istore_n (lv' := [(3, .int (gIA gT 76 v2.toNatClampNeg)), (0, .ref hT), (2, .int v2)]) hx hb dX12_tick1_81 rfl hl (by decide) rfl (fun ls hl => ?_)
    refine lv_iload_n hx hb dX12_tick1_82 rfl (lv_at hl 0 rfl) ?_
    refine lv_bipush (v := (100 : Int32)) hx hb dX12_tick1_83 (by decide) ?_
    refine lv_icmp_lt (tgt := 99) hx hb dX12_tick1_85 (by decide) (fun c => ?_) (fun c => ?_)
    · replace hF := iT c hF
      refine lv_aload_n hx hb dX12_tick1_99 rfl (lv_at hl 1 rfl) ?_
      refine lv_aload_n hx hb dX12_tick1_100 rfl (lv_at hl 1 rfl) ?_
      refine va_get (D := D.1) (ci := 12) (v := .ref (aT 68)) (C := RX12) (T := TX12) (N := 114) hx hb hts wi_X12 hown X.1 X.2.1 0 rfl rfl 68 (by decide) (hts _ q7_22) (fun _ h9 => h9) (fl_get (by decide)) dX12_tick1_101 ?_
      refine lv_iload_n hx hb dX12_tick1_104 rfl (lv_at hl 0 rfl) ?_
      obtain ⟨h_2, hF⟩ := grd_some hF
      refine va_zald (D := D.1) (f := gIA gT 68) hx hb X.1 X.2.1 43 42 rfl rfl (inB_ok h_2) dX12_tick1_105 ?_
      refine lv_if_eq (tgt := 118) hx hb dX12_tick1_106 (by decide) (fun c => ?_) (fun c => ?_)
      · replace hF := iT c hF
        refine lv_aload_n hx hb dX12_tick1_118 rfl (lv_at hl 1 rfl) ?_
        refine va_get (D := D.1) (ci := 12) (v := .ref (aT 69)) (C := RX12) (T := TX12) (N := 114) hx hb hts wi_X12 hown X.1 X.2.1 0 rfl rfl 69 (by decide) (hts _ q7_23) (fun _ h9 => h9) (fl_get (by decide)) dX12_tick1_119 ?_
        refine lv_iload_n hx hb dX12_tick1_122 rfl (lv_at hl 0 rfl) ?_
        obtain ⟨h_3, hF⟩ := grd_some hF
        refine va_iald (D := D.1) (f := gIA gT 69) hx hb X.1 X.2.1 44 43 rfl rfl (inB_ok h_3) dX12_tick1_123 ?_
        exact (k_X12_tick1_124 l D hT aT yT n rec IH) C X (lv_sub hl [1, 2, 0] rfl) hF
      · replace hF := iF c hF
        refine lv_aload_n hx hb dX12_tick1_109 rfl (lv_at hl 1 rfl) ?_
        refine va_get (D := D.1) (ci := 12) (v := .ref (aT 70)) (C := RX12) (T := TX12) (N := 114) hx hb hts wi_X12 hown X.1 X.2.1 0 rfl rfl 70 (by decide) (hts _ q7_24) (fun _ h9 => h9) (fl_get (by decide)) dX12_tick1_110 ?_
        refine lv_iload_n hx hb dX12_tick1_113 rfl (lv_at hl 0 rfl) ?_
        obtain ⟨h_18, hF⟩ := grd_some hF
        refine va_iald (D := D.1) (f := gIA gT 70) hx hb X.1 X.2.1 45 44 rfl rfl (inB_ok h_18) dX12_tick1_114 ?_
        refine lv_goto (tgt := 124) hx hb dX12_tick1_115 (by decide) ?_
        exact (k_X12_tick1_124 l D hT aT yT n rec IH) C X (lv_sub hl [1, 2, 0] rfl) hF
    · replace hF := iF c hF
      refine lv_aload_n hx hb dX12_tick1_88 rfl (lv_at hl 1 rfl) ?_
      refine lv_iload_n hx hb dX12_tick1_89 rfl (lv_at hl 0 rfl) ?_
      refine lv_bipush (v := (100 : Int32)) hx hb dX12_tick1_90 (by decide) ?_
      refine lv_isub hx hb dX12_tick1_92 ?_
      obtain ⟨q_19, hc_20, hF⟩ := bnd_some hF
      refine cV_v (As := [.int ((gIA gT 76 v2.toNatClampNeg) - (100 : Int32))]) (rest := []) C X (c_X12_strikes l D hT aT yT n gT ((gIA gT 76 v2.toNatClampNeg) - (100 : Int32)) q_19 hc_20 _) (cwV 1 hts (good_V q9_172 q9_174 q0_126 q1_9 q9_175) rfl rfl rfl (by decide +kernel) ⟨Nat.le_of_ble_eq_true rfl, Nat.le_of_ble_eq_true rfl⟩) (va_recv X.1 X.2.1 (ci := 12) (q0 := 0) rfl rfl) X.1 X.2.1 X.2.2.1 (free_all X) hl.1 rfl rfl (Nat.le_of_ble_eq_true rfl) dX12_tick1_93 ⟨Nat.le_of_ble_eq_true rfl, Nat.le_of_ble_eq_true rfl⟩ (fun t H1 locs1 ht hB hk hS => ?_)
      have X : Hx D (tX12 yT) A s H1 locs1 (wX12 hT aT yT q_19) := Hx_after_all X ht hB hS
      clear hk hS ht hB
      generalize H1 = H at X ⊢
      generalize locs1 = locs at X ⊢
      refine lv_goto (tgt := 206) hx hb dX12_tick1_96 (by decide) ?_
      exact (k_X12_tick1_206 l D hT aT yT n rec IH) C X (lv_sub hl [1, 2] rfl) hF
set_option maxHeartbeats 4000000 in
set_option maxRecDepth 100000 in
theorem k_X12_tick1_22 (l : Launch) (D : Dx) (hT : Nat) (aT : Nat → Nat) (yT : Nat → ClassId) (n : Nat) (rec : (Gs → Int32 → Int32 → Option (Gs)) × (Gs → Int32 → Option (Gs))) (IH : SH_X12_tick1 l D hT aT yT rec) : S_X12_tick1_22 l D hT aT yT (h_X12_tick1_22 n rec) := by
  intro p e s m args below meth c H locs A ls gT v1 v2 q C X hl hF
  obtain ⟨hx, hb, hr, hml, hown, hts, hlk⟩ := id C
  unfold h_X12_tick1_22 at hF
  refine lv_iload_n hx hb dX12_tick1_22 rfl (lv_at hl 2 rfl) ?_
  refine lv_aload_n hx hb dX12_tick1_23 rfl (lv_at hl 0 rfl) ?_
  refine va_get (D := D.1) (ci := 12) (v := .int (gI gT 60)) (C := RX12) (T := TX12) (N := 114) hx hb hts wi_X12 hown X.1 X.2.1 0 rfl rfl 60 (by decide) (hts _ q7_14) (fun _ h9 => h9) (fl_get (by decide)) dX12_tick1_24 ?_
  refine lv_icmp_ge (tgt := 65) hx hb dX12_tick1_27 (by decide) (fun c => ?_) (fun c => ?_)
  · replace hF := iT c hF
    refine lv_iconst (v := (0 : Int32)) hx hb dX12_tick1_65 (by decide) ?_
    refine lv_istore_n (lv' := [(2, .int (0 : Int32)), (0, .ref hT), (1, .int v1)]) hx hb dX12_tick1_66 rfl hl (by decide) rfl (fun ls hl => ?_)
    exact IH.2 C X (lv_sub hl [1, 0] rfl) hF
  · replace hF := iF c hF
    refine lv_aload_n hx hb dX12_tick1_30 rfl (lv_at hl 0 rfl) ?_
    refine va_get (D := D.1) (ci := 12) (v := .ref (aT 81)) (C := RX12) (T := TX12) (N := 114) hx hb hts wi_X12 hown X.1 X.2.1 0 rfl rfl 81 (by decide) (hts _ q7_35) (fun _ h9 => h9) (fl_get (by decide)) dX12_tick1_31 ?_
    refine lv_iload_n hx hb dX12_tick1_34 rfl (lv_at hl 2 rfl) ?_
    refine lv_aload_n hx hb dX12_tick1_35 rfl (lv_at hl 0 rfl) ?_
    refine va_get (D := D.1) (ci := 12) (v := .ref (aT 80)) (C := RX12) (T := TX12) (N := 114) hx hb hts wi_X12 hown X.1 X.2.1 0 rfl rfl 80 (by decide) (hts _ q7_34) (fun _ h9 => h9) (fl_get (by decide)) dX12_tick1_36 ?_
    refine lv_iload_n hx hb dX12_tick1_39 rfl (lv_at hl 2 rfl) ?_
    obtain ⟨h_21, hF⟩ := grd_some hF
    refine va_lald (D := D.1) (f := gLA gT 80) hx hb X.1 X.2.1 54 53 rfl rfl (inB_ok h_21) dX12_tick1_40 ?_
    obtain ⟨h_22, hF⟩ := grd_some hF
    refine va_last (D := D.1) (f := gLA gT 81) hx hb X.1 X.2.1 X.2.2.1 X.2.2.2.1 55 54 rfl rfl (inB_ok h_22) dX12_tick1_41 (fun H locs hP hD hS => ?_)
    have X : Hx D (tX12 yT) A s H locs (wX12 hT aT yT (sLA gT 81 (vp_updL (gLA gT 81) v2.toNatClampNeg (gLA gT 80 v2.toNatClampNeg)))) := Hx_set X (wG_sLA (i := 54) (k := 81) ndX12 rfl rfl) hP hD hS
    refine lv_aload_n hx hb dX12_tick1_42 rfl (lv_at hl 0 rfl) ?_
    refine va_get (D := D.1) (ci := 12) (v := .ref (aT 82)) (C := RX12) (T := TX12) (N := 114) hx hb hts wi_X12 hown X.1 X.2.1 0 rfl rfl 82 (by decide) (hts _ q7_36) (fun _ h9 => h9) (fl_get (by decide)) dX12_tick1_43 ?_
    refine lv_bipush (v := (32 : Int32)) hx hb dX12_tick1_46 (by decide) ?_
    refine lv_iload_n hx hb dX12_tick1_48 rfl (lv_at hl 2 rfl) ?_
    refine lv_imul hx hb dX12_tick1_49 ?_
    refine lv_iload_n hx hb dX12_tick1_50 rfl (lv_at hl 1 rfl) ?_
    refine lv_iadd hx hb dX12_tick1_51 ?_
    refine lv_aload_n hx hb dX12_tick1_52 rfl (lv_at hl 0 rfl) ?_
    refine va_get (D := D.1) (ci := 12) (v := .ref (aT 80)) (C := RX12) (T := TX12) (N := 114) hx hb hts wi_X12 hown X.1 X.2.1 0 rfl rfl 80 (by decide) (hts _ q7_34) (fun _ h9 => h9) (fl_get (by decide)) dX12_tick1_53 ?_
    refine lv_iload_n hx hb dX12_tick1_56 rfl (lv_at hl 2 rfl) ?_
    obtain ⟨h_23, hF⟩ := grd_some hF
    refine va_lald (D := D.1) (f := gLA gT 80) hx hb X.1 X.2.1 54 53 rfl rfl (inB_ok h_23) dX12_tick1_57 ?_
    obtain ⟨h_24, hF⟩ := grd_some hF
    refine va_last (D := D.1) (f := gLA gT 82) hx hb X.1 X.2.1 X.2.2.1 X.2.2.2.1 56 55 rfl rfl (inB_ok h_24) dX12_tick1_58 (fun H locs hP hD hS => ?_)
    have X : Hx D (tX12 yT) A s H locs (wX12 hT aT yT (sLA (sLA gT 81 (vp_updL (gLA gT 81) v2.toNatClampNeg (gLA gT 80 v2.toNatClampNeg))) 82 (vp_updL (gLA gT 82) (((32 : Int32) * v2) + v1).toNatClampNeg (gLA gT 80 v2.toNatClampNeg)))) := Hx_set X (wG_sLA (i := 55) (k := 82) ndX12 rfl rfl) hP hD hS
    refine lv_iinc (v := v2 + (1 : Int32)) (lv' := [(2, .int (v2 + (1 : Int32))), (0, .ref hT), (1, .int v1)]) hx hb dX12_tick1_59 hl (k := 2) rfl rfl (by decide) rfl (fun ls hl => ?_)
    refine lv_goto (tgt := 22) hx hb dX12_tick1_62 (by decide) ?_
    exact IH.1 C X (lv_sub hl [1, 2, 0] rfl) hF
theorem kL_X12_tick1 (l : Launch) (D : Dx) (hT : Nat) (aT : Nat → Nat) (yT : Nat → ClassId) (n : Nat) : ∀ k, SH_X12_tick1 l D hT aT yT (L_X12_tick1 n k)
  | 0 => ⟨(fun _ _ _ h => by cases h), (fun _ _ _ h => by cases h)⟩
  | k + 1 => ⟨k_X12_tick1_22 l D hT aT yT n _ (kL_X12_tick1 l D hT aT yT n k), k_X12_tick1_67 l D hT aT yT n _ (kL_X12_tick1 l D hT aT yT n k)⟩
set_option maxHeartbeats 4000000 in
set_option maxRecDepth 100000 in
theorem c_X12_tick1 (l : Launch) (D : Dx) (hT : Nat) (aT : Nat → Nat) (yT : Nat → ClassId) (n : Nat) (gT : Gs) (q : Gs) (hF : f_X12_tick1 n gT = some q) (sz : Nat) : Met l yX12_tick1 (ws_ yX12_tick1 cX12_tick1 4 none) R_X12_tick1 (PC D (tX12 yT) [.ref hT] (wX12 hT aT yT gT) sz) (QV D (va_A (wX12 hT aT yT gT) sz) (wX12 hT aT yT q)) 0 0 (va_A (wX12 hT aT yT gT) sz) := by
  refine Met.ofW (cc := cX12_tick1) (maxL := 4) (ret := none) (by decide) rfl ?_
  intro p e s m args below meth c s₁ B hml hv
  obtain ⟨rfl, hsz, hP, hK, hD, hN⟩ := hv
  subst hsz
  have C : Cx p s m _ meth c cX12_tick1 none 4 RX12 lw_all := Cx_of B hml
  have X := Hx_start hP hK hD hN
  obtain ⟨hx, hb, hr, -, hown, hts, hlk⟩ := id C
  generalize va_A (wX12 hT aT yT gT) s.heap.size = A at X ⊢
  have hl := lv_entry ([.ref hT]) (n := 4) (Nat.le_of_ble_eq_true rfl)
  rw [lg_entry_eq]
  generalize (lg_sl ([.ref hT]) ++ List.replicate (4 - (lg_sl ([.ref hT])).length) Slot.unset).toArray = ls at hl ⊢
  have hl : lv_has ls 4 [(0, .ref hT)] := hl
  unfold f_X12_tick1 at hF
  refine lv_aload_n hx hb dX12_tick1_0 rfl (lv_at hl 0 rfl) ?_
  refine lv_dup hx hb dX12_tick1_1 rfl ?_
  refine va_get (D := D.1) (ci := 12) (v := .long (gL gT 87)) (C := RX12) (T := TX12) (N := 114) hx hb hts wi_X12 hown X.1 X.2.1 0 rfl rfl 87 (by decide) (hts _ q7_41) (fun _ h9 => h9) (fl_get (by decide)) dX12_tick1_2 ?_
  refine lv_lconst (v := (1 : Int64)) hx hb dX12_tick1_5 (by decide) ?_
  refine lv_ladd hx hb dX12_tick1_6 ?_
  refine va_put (D := D.1) (ci := 12) (v := .long ((gL gT 87) + (1 : Int64))) (ty := .long) (C := RX12) (T := TX12) (N := 114) hx hb hts wi_X12 tyX12 tyX12_ok nmX12 hown X.1 X.2.1 X.2.2.1 X.2.2.2.1 0 rfl rfl 87 (by decide) (hts _ q7_41) (fun _ h9 => h9) rfl (by decide +kernel) rfl rfl (by rw [List.length_map, List.length_range]; decide) dX12_tick1_7 (fun H locs hP hD hS => ?_)
  have X : Hx D (tX12 yT) A s H locs (wX12 hT aT yT (sL gT 87 ((gL gT 87) + (1 : Int64)))) := Hx_set X (wG_sL (k := 87) rfl) hP hD hS
  refine lv_aload_n hx hb dX12_tick1_10 rfl (lv_at hl 0 rfl) ?_
  refine va_get (D := D.1) (ci := 12) (v := .long ((gL gT 87) + (1 : Int64))) (C := RX12) (T := TX12) (N := 114) hx hb hts wi_X12 hown X.1 X.2.1 0 rfl rfl 87 (by decide) (hts _ q7_41) (fun _ h9 => h9) (fl_get (by decide)) dX12_tick1_11 ?_
  refine lv_ldc2 hx hb hown (hts _ q9_171) dX12_tick1_14 ?_
  refine lv_land hx hb dX12_tick1_17 ?_
  refine lv_l2i hx hb dX12_tick1_18 rfl ?_
  refine lv_istore_n (lv' := [(1, .int ((((gL gT 87) + (1 : Int64)) &&& (31 : Int64)).toInt32)), (0, .ref hT)]) hx hb dX12_tick1_19 rfl hl (by decide) rfl (fun ls hl => ?_)
  refine lv_iconst (v := (0 : Int32)) hx hb dX12_tick1_20 (by decide) ?_
  refine lv_istore_n (lv' := [(2, .int (0 : Int32)), (1, .int ((((gL gT 87) + (1 : Int64)) &&& (31 : Int64)).toInt32)), (0, .ref hT)]) hx hb dX12_tick1_21 rfl hl (by decide) rfl (fun ls hl => ?_)
  exact (kL_X12_tick1 l D hT aT yT n n).1 C X (lv_sub hl [2, 1, 0] rfl) hF

/-! ### X12_tick -/
theorem dX12_tick_0 : decode cX12_tick 0 = .ok (.iload_n 1, 1) := by decide +kernel
theorem dX12_tick_1 : decode cX12_tick 1 = .ok (.ifCond .lt 10, 3) := by decide +kernel
theorem dX12_tick_4 : decode cX12_tick 4 = .ok (.iload_n 1, 1) := by decide +kernel
theorem dX12_tick_5 : decode cX12_tick 5 = .ok (.sipush 500, 3) := by decide +kernel
theorem dX12_tick_8 : decode cX12_tick 8 = .ok (.if_icmp .le 7, 3) := by decide +kernel
theorem dX12_tick_11 : decode cX12_tick 11 = .ok (.ldc2_w 694, 3) := by decide +kernel
theorem dX12_tick_14 : decode cX12_tick 14 = .ok (.lreturn, 1) := by decide +kernel
theorem dX12_tick_15 : decode cX12_tick 15 = .ok (.iconst 0, 1) := by decide +kernel
theorem dX12_tick_16 : decode cX12_tick 16 = .ok (.istore_n 2, 1) := by decide +kernel
theorem dX12_tick_17 : decode cX12_tick 17 = .ok (.iload_n 2, 1) := by decide +kernel
theorem dX12_tick_18 : decode cX12_tick 18 = .ok (.iload_n 1, 1) := by decide +kernel
theorem dX12_tick_19 : decode cX12_tick 19 = .ok (.if_icmp .ge 13, 3) := by decide +kernel
theorem dX12_tick_22 : decode cX12_tick 22 = .ok (.aload_n 0, 1) := by decide +kernel
theorem dX12_tick_23 : decode cX12_tick 23 = .ok (.invokevirtual 721, 3) := by decide +kernel
theorem dX12_tick_26 : decode cX12_tick 26 = .ok (.iinc 2 1, 3) := by decide +kernel
theorem dX12_tick_29 : decode cX12_tick 29 = .ok (.goto (-12), 3) := by decide +kernel
theorem dX12_tick_32 : decode cX12_tick 32 = .ok (.aload_n 0, 1) := by decide +kernel
theorem dX12_tick_33 : decode cX12_tick 33 = .ok (.getfield 319, 3) := by decide +kernel
theorem dX12_tick_36 : decode cX12_tick 36 = .ok (.lreturn, 1) := by decide +kernel
abbrev R_X12_tick : Room := ({ frames := 11, cells := 0, slots := 0, locals := 295 } : Room)
def h_X12_tick_17 (n : Nat) (rec : (Gs → Int32 → Int32 → Option (Int64 × Gs))) (gT : Gs) (v1 : Int32) (v2 : Int32) : Option (Int64 × Gs) :=
  if v1 ≤ v2 then (some (gL gT 87, gT)) else (bnd (f_X12_tick1 n gT) (fun q_1 => rec q_1 v1 (v2 + (1 : Int32))))
def L_X12_tick (n : Nat) : Nat → (Gs → Int32 → Int32 → Option (Int64 × Gs))
  | 0 => ((fun _ _ _ => none))
  | k + 1 => (h_X12_tick_17 n (L_X12_tick n k))
def f_X12_tick (n : Nat) (gT : Gs) (x0 : Int32) : Option (Int64 × Gs) :=
  if x0 < 0 then (some ((-1 : Int64), gT)) else (if x0 ≤ (500 : Int32) then ((L_X12_tick n n) gT x0 (0 : Int32)) else (some ((-1 : Int64), gT)))
def S_X12_tick_17 (l : Launch) (D : Dx) (hT : Nat) (aT : Nat → Nat) (yT : Nat → ClassId) (fn : Gs → Int32 → Int32 → Option (Int64 × Gs)) : Prop :=
  ∀ {p : Program} {e : Env} {s : State} {m : MethodId} {args : Array Value} {below : List Frame} {meth : Method} {c : Code} {H : Heap} {locs : List Loc} {A : Nat → Prop} {ls : Array Slot} {gT : Gs} {v1 : Int32} {v2 : Int32} {q : Int64 × Gs}, Cx p s m args meth c cX12_tick (some .long) 3 RX12 lw_all → Hx D (tX12 yT) A s H locs (wX12 hT aT yT gT) → lv_has ls 3 [(0, .ref hT), (1, .int v1), (2, .int v2)] → fn gT v1 v2 = some q → W p l e R_X12_tick s m args below meth c H locs 0 0 (MQ below (QL D A (wX12 hT aT yT q.2) q.1) args s 0 0 A) (F0 m 17 ls [])
def SH_X12_tick (l : Launch) (D : Dx) (hT : Nat) (aT : Nat → Nat) (yT : Nat → ClassId) (rec : (Gs → Int32 → Int32 → Option (Int64 × Gs))) : Prop := S_X12_tick_17 l D hT aT yT rec
set_option maxHeartbeats 4000000 in
set_option maxRecDepth 100000 in
theorem k_X12_tick_17 (l : Launch) (D : Dx) (hT : Nat) (aT : Nat → Nat) (yT : Nat → ClassId) (n : Nat) (rec : (Gs → Int32 → Int32 → Option (Int64 × Gs))) (IH : SH_X12_tick l D hT aT yT rec) : S_X12_tick_17 l D hT aT yT (h_X12_tick_17 n rec) := by
  intro p e s m args below meth c H locs A ls gT v1 v2 q C X hl hF
  obtain ⟨hx, hb, hr, hml, hown, hts, hlk⟩ := id C
  unfold h_X12_tick_17 at hF
  refine lv_iload_n hx hb dX12_tick_17 rfl (lv_at hl 2 rfl) ?_
  refine lv_iload_n hx hb dX12_tick_18 rfl (lv_at hl 1 rfl) ?_
  refine lv_icmp_ge (tgt := 32) hx hb dX12_tick_19 (by decide) (fun c => ?_) (fun c => ?_)
  · replace hF := iT c hF
    refine lv_aload_n hx hb dX12_tick_32 rfl (lv_at hl 0 rfl) ?_
    refine va_get (D := D.1) (ci := 12) (v := .long (gL gT 87)) (C := RX12) (T := TX12) (N := 114) hx hb hts wi_X12 hown X.1 X.2.1 0 rfl rfl 87 (by decide) (hts _ q7_41) (fun _ h9 => h9) (fl_get (by decide)) dX12_tick_33 ?_
    have hq := Option.some.inj hF
    subst hq
    exact rt_l C X dX12_tick_36
  · replace hF := iF c hF
    refine lv_aload_n hx hb dX12_tick_22 rfl (lv_at hl 0 rfl) ?_
    obtain ⟨q_1, hc_2, hF⟩ := bnd_some hF
    refine cV_v (As := []) (rest := []) C X (c_X12_tick1 l D hT aT yT n gT q_1 hc_2 _) (cwV 0 hts (good_V q9_167 q9_169 q0_125 q1_9 q9_170) rfl rfl rfl (by decide +kernel) ⟨Nat.le_of_ble_eq_true rfl, Nat.le_of_ble_eq_true rfl⟩) (va_recv X.1 X.2.1 (ci := 12) (q0 := 0) rfl rfl) X.1 X.2.1 X.2.2.1 (free_all X) hl.1 rfl rfl (Nat.le_of_ble_eq_true rfl) dX12_tick_23 ⟨Nat.le_of_ble_eq_true rfl, Nat.le_of_ble_eq_true rfl⟩ (fun t H1 locs1 ht hB hk hS => ?_)
    have X : Hx D (tX12 yT) A s H1 locs1 (wX12 hT aT yT q_1) := Hx_after_all X ht hB hS
    clear hk hS ht hB
    generalize H1 = H at X ⊢
    generalize locs1 = locs at X ⊢
    refine lv_iinc (v := v2 + (1 : Int32)) (lv' := [(2, .int (v2 + (1 : Int32))), (0, .ref hT), (1, .int v1)]) hx hb dX12_tick_26 hl (k := 2) rfl rfl (by decide) rfl (fun ls hl => ?_)
    refine lv_goto (tgt := 17) hx hb dX12_tick_29 (by decide) ?_
    exact IH C X (lv_sub hl [1, 2, 0] rfl) hF
theorem kL_X12_tick (l : Launch) (D : Dx) (hT : Nat) (aT : Nat → Nat) (yT : Nat → ClassId) (n : Nat) : ∀ k, SH_X12_tick l D hT aT yT (L_X12_tick n k)
  | 0 => fun _ _ _ h => by cases h
  | k + 1 => k_X12_tick_17 l D hT aT yT n _ (kL_X12_tick l D hT aT yT n k)
set_option maxHeartbeats 4000000 in
set_option maxRecDepth 100000 in
theorem c_X12_tick (l : Launch) (D : Dx) (hT : Nat) (aT : Nat → Nat) (yT : Nat → ClassId) (n : Nat) (gT : Gs) (x0 : Int32) (q : Int64 × Gs) (hF : f_X12_tick n gT x0 = some q) (sz : Nat) : Met l yX12_tick (ws_ yX12_tick cX12_tick 3 (some .long)) R_X12_tick (PC D (tX12 yT) [.ref hT, .int x0] (wX12 hT aT yT gT) sz) (QL D (va_A (wX12 hT aT yT gT) sz) (wX12 hT aT yT q.2) q.1) 0 0 (va_A (wX12 hT aT yT gT) sz) := by
  refine Met.ofW (cc := cX12_tick) (maxL := 3) (ret := (some .long)) (by decide) rfl ?_
  intro p e s m args below meth c s₁ B hml hv
  obtain ⟨rfl, hsz, hP, hK, hD, hN⟩ := hv
  subst hsz
  have C : Cx p s m _ meth c cX12_tick (some .long) 3 RX12 lw_all := Cx_of B hml
  have X := Hx_start hP hK hD hN
  obtain ⟨hx, hb, hr, -, hown, hts, hlk⟩ := id C
  generalize va_A (wX12 hT aT yT gT) s.heap.size = A at X ⊢
  have hl := lv_entry ([.ref hT, .int x0]) (n := 3) (Nat.le_of_ble_eq_true rfl)
  rw [lg_entry_eq]
  generalize (lg_sl ([.ref hT, .int x0]) ++ List.replicate (3 - (lg_sl ([.ref hT, .int x0])).length) Slot.unset).toArray = ls at hl ⊢
  have hl : lv_has ls 3 [(0, .ref hT), (1, .int x0)] := hl
  unfold f_X12_tick at hF
  refine lv_iload_n hx hb dX12_tick_0 rfl (lv_at hl 1 rfl) ?_
  refine lv_if_lt (tgt := 11) hx hb dX12_tick_1 (by decide) (fun c => ?_) (fun c => ?_)
  · replace hF := iT c hF
    refine lv_ldc2 hx hb hown (hts _ q9_125) dX12_tick_11 ?_
    have hq := Option.some.inj hF
    subst hq
    exact rt_l C X dX12_tick_14
  · replace hF := iF c hF
    refine lv_iload_n hx hb dX12_tick_4 rfl (lv_at hl 1 rfl) ?_
    refine lv_sipush (v := (500 : Int32)) hx hb dX12_tick_5 (by decide) ?_
    refine lv_icmp_le (tgt := 15) hx hb dX12_tick_8 (by decide) (fun c => ?_) (fun c => ?_)
    · replace hF := iT c hF
      refine lv_iconst (v := (0 : Int32)) hx hb dX12_tick_15 (by decide) ?_
      refine lv_istore_n (lv' := [(2, .int (0 : Int32)), (0, .ref hT), (1, .int x0)]) hx hb dX12_tick_16 rfl hl (by decide) rfl (fun ls hl => ?_)
      exact (kL_X12_tick l D hT aT yT n n) C X (lv_sub hl [1, 2, 0] rfl) hF
    · replace hF := iF c hF
      refine lv_ldc2 hx hb hown (hts _ q9_125) dX12_tick_11 ?_
      have hq := Option.some.inj hF
      subst hq
      exact rt_l C X dX12_tick_14

/-! ### X12_told_ -/
theorem dX12_told__0 : decode cX12_told_ 0 = .ok (.aload_n 0, 1) := by decide +kernel
theorem dX12_told__1 : decode cX12_told_ 1 = .ok (.getfield 352, 3) := by decide +kernel
theorem dX12_told__4 : decode cX12_told_ 4 = .ok (.lreturn, 1) := by decide +kernel
abbrev R_X12_told_ : Room := ({ frames := 0, cells := 0, slots := 0, locals := 0 } : Room)
def f_X12_told_ (gT : Gs) : Option (Int64) :=
  some (gL gT 97)
set_option maxHeartbeats 4000000 in
set_option maxRecDepth 100000 in
theorem c_X12_told_ (l : Launch) (D : Dx) (hT : Nat) (aT : Nat → Nat) (yT : Nat → ClassId) (gT : Gs) (q : Int64) (hF : f_X12_told_ gT = some q) (sz : Nat) : Met l yX12_told_ (ws_ yX12_told_ cX12_told_ 1 (some .long)) R_X12_told_ (PC D (tX12 yT) [.ref hT] (wX12 hT aT yT gT) sz) (QL D (va_A (wX12 hT aT yT gT) sz) (wX12 hT aT yT gT) q) 0 0 (va_A (wX12 hT aT yT gT) sz) := by
  refine Met.ofW (cc := cX12_told_) (maxL := 1) (ret := (some .long)) (by decide) rfl ?_
  intro p e s m args below meth c s₁ B hml hv
  obtain ⟨rfl, hsz, hP, hK, hD, hN⟩ := hv
  subst hsz
  have C : Cx p s m _ meth c cX12_told_ (some .long) 1 RX12 lw_all := Cx_of B hml
  have X := Hx_start hP hK hD hN
  obtain ⟨hx, hb, hr, -, hown, hts, hlk⟩ := id C
  generalize va_A (wX12 hT aT yT gT) s.heap.size = A at X ⊢
  have hl := lv_entry ([.ref hT]) (n := 1) (Nat.le_of_ble_eq_true rfl)
  rw [lg_entry_eq]
  generalize (lg_sl ([.ref hT]) ++ List.replicate (1 - (lg_sl ([.ref hT])).length) Slot.unset).toArray = ls at hl ⊢
  have hl : lv_has ls 1 [(0, .ref hT)] := hl
  unfold f_X12_told_ at hF
  refine lv_aload_n hx hb dX12_told__0 rfl (lv_at hl 0 rfl) ?_
  refine va_get (D := D.1) (ci := 12) (v := .long (gL gT 97)) (C := RX12) (T := TX12) (N := 114) hx hb hts wi_X12 hown X.1 X.2.1 0 rfl rfl 97 (by decide) (hts _ q7_51) (fun _ h9 => h9) (fl_get (by decide)) dX12_told__1 ?_
  have hq := Option.some.inj hF
  subst hq
  exact rt_l C X dX12_told__4

/-! ### X12_fault_ -/
theorem dX12_fault__0 : decode cX12_fault_ 0 = .ok (.aload_n 0, 1) := by decide +kernel
theorem dX12_fault__1 : decode cX12_fault_ 1 = .ok (.getfield 119, 3) := by decide +kernel
theorem dX12_fault__4 : decode cX12_fault_ 4 = .ok (.ireturn, 1) := by decide +kernel
abbrev R_X12_fault_ : Room := ({ frames := 0, cells := 0, slots := 0, locals := 0 } : Room)
def f_X12_fault_ (gT : Gs) : Option (Int32) :=
  some (gI gT 21)
set_option maxHeartbeats 4000000 in
set_option maxRecDepth 100000 in
theorem c_X12_fault_ (l : Launch) (D : Dx) (hT : Nat) (aT : Nat → Nat) (yT : Nat → ClassId) (gT : Gs) (q : Int32) (hF : f_X12_fault_ gT = some q) (sz : Nat) : Met l yX12_fault_ (ws_ yX12_fault_ cX12_fault_ 1 (some .int)) R_X12_fault_ (PC D (tX12 yT) [.ref hT] (wX12 hT aT yT gT) sz) (QI D (va_A (wX12 hT aT yT gT) sz) (wX12 hT aT yT gT) q) 0 0 (va_A (wX12 hT aT yT gT) sz) := by
  refine Met.ofW (cc := cX12_fault_) (maxL := 1) (ret := (some .int)) (by decide) rfl ?_
  intro p e s m args below meth c s₁ B hml hv
  obtain ⟨rfl, hsz, hP, hK, hD, hN⟩ := hv
  subst hsz
  have C : Cx p s m _ meth c cX12_fault_ (some .int) 1 RX12 lw_all := Cx_of B hml
  have X := Hx_start hP hK hD hN
  obtain ⟨hx, hb, hr, -, hown, hts, hlk⟩ := id C
  generalize va_A (wX12 hT aT yT gT) s.heap.size = A at X ⊢
  have hl := lv_entry ([.ref hT]) (n := 1) (Nat.le_of_ble_eq_true rfl)
  rw [lg_entry_eq]
  generalize (lg_sl ([.ref hT]) ++ List.replicate (1 - (lg_sl ([.ref hT])).length) Slot.unset).toArray = ls at hl ⊢
  have hl : lv_has ls 1 [(0, .ref hT)] := hl
  unfold f_X12_fault_ at hF
  refine lv_aload_n hx hb dX12_fault__0 rfl (lv_at hl 0 rfl) ?_
  refine va_get (D := D.1) (ci := 12) (v := .int (gI gT 21)) (C := RX12) (T := TX12) (N := 114) hx hb hts wi_X12 hown X.1 X.2.1 0 rfl rfl 21 (by decide) (hts _ q6_215) (fun _ h9 => h9) (fl_get (by decide)) dX12_fault__1 ?_
  have hq := Option.some.inj hF
  subst hq
  exact rt_i C X dX12_fault__4

/-! ### X12_strike -/
theorem dX12_strike_0 : decode cX12_strike 0 = .ok (.iload_n 1, 1) := by decide +kernel
theorem dX12_strike_1 : decode cX12_strike 1 = .ok (.ifCond .lt 26, 3) := by decide +kernel
theorem dX12_strike_4 : decode cX12_strike 4 = .ok (.iload_n 1, 1) := by decide +kernel
theorem dX12_strike_5 : decode cX12_strike 5 = .ok (.bipush 63, 2) := by decide +kernel
theorem dX12_strike_7 : decode cX12_strike 7 = .ok (.if_icmp .gt 20, 3) := by decide +kernel
theorem dX12_strike_10 : decode cX12_strike 10 = .ok (.iload_n 1, 1) := by decide +kernel
theorem dX12_strike_11 : decode cX12_strike 11 = .ok (.aload_n 0, 1) := by decide +kernel
theorem dX12_strike_12 : decode cX12_strike 12 = .ok (.getfield 323, 3) := by decide +kernel
theorem dX12_strike_15 : decode cX12_strike 15 = .ok (.if_icmp .ge 12, 3) := by decide +kernel
theorem dX12_strike_18 : decode cX12_strike 18 = .ok (.iload_n 2, 1) := by decide +kernel
theorem dX12_strike_19 : decode cX12_strike 19 = .ok (.ifCond .lt 8, 3) := by decide +kernel
theorem dX12_strike_22 : decode cX12_strike 22 = .ok (.iload_n 2, 1) := by decide +kernel
theorem dX12_strike_23 : decode cX12_strike 23 = .ok (.iconst 1, 1) := by decide +kernel
theorem dX12_strike_24 : decode cX12_strike 24 = .ok (.if_icmp .le 7, 3) := by decide +kernel
theorem dX12_strike_27 : decode cX12_strike 27 = .ok (.ldc2_w 694, 3) := by decide +kernel
theorem dX12_strike_30 : decode cX12_strike 30 = .ok (.lreturn, 1) := by decide +kernel
theorem dX12_strike_31 : decode cX12_strike 31 = .ok (.aload_n 0, 1) := by decide +kernel
theorem dX12_strike_32 : decode cX12_strike 32 = .ok (.getfield 323, 3) := by decide +kernel
theorem dX12_strike_35 : decode cX12_strike 35 = .ok (.iconst 1, 1) := by decide +kernel
theorem dX12_strike_36 : decode cX12_strike 36 = .ok (.isub, 1) := by decide +kernel
theorem dX12_strike_37 : decode cX12_strike 37 = .ok (.iload_n 1, 1) := by decide +kernel
theorem dX12_strike_38 : decode cX12_strike 38 = .ok (.isub, 1) := by decide +kernel
theorem dX12_strike_39 : decode cX12_strike 39 = .ok (.bipush 63, 2) := by decide +kernel
theorem dX12_strike_41 : decode cX12_strike 41 = .ok (.iand, 1) := by decide +kernel
theorem dX12_strike_42 : decode cX12_strike 42 = .ok (.istore_n 3, 1) := by decide +kernel
theorem dX12_strike_43 : decode cX12_strike 43 = .ok (.iload_n 2, 1) := by decide +kernel
theorem dX12_strike_44 : decode cX12_strike 44 = .ok (.ifCond .ne 12, 3) := by decide +kernel
theorem dX12_strike_47 : decode cX12_strike 47 = .ok (.aload_n 0, 1) := by decide +kernel
theorem dX12_strike_48 : decode cX12_strike 48 = .ok (.getfield 326, 3) := by decide +kernel
theorem dX12_strike_51 : decode cX12_strike 51 = .ok (.iload_n 3, 1) := by decide +kernel
theorem dX12_strike_52 : decode cX12_strike 52 = .ok (.laload, 1) := by decide +kernel
theorem dX12_strike_53 : decode cX12_strike 53 = .ok (.goto 10, 3) := by decide +kernel
theorem dX12_strike_56 : decode cX12_strike 56 = .ok (.aload_n 0, 1) := by decide +kernel
theorem dX12_strike_57 : decode cX12_strike 57 = .ok (.getfield 329, 3) := by decide +kernel
theorem dX12_strike_60 : decode cX12_strike 60 = .ok (.iload_n 3, 1) := by decide +kernel
theorem dX12_strike_61 : decode cX12_strike 61 = .ok (.iaload, 1) := by decide +kernel
theorem dX12_strike_62 : decode cX12_strike 62 = .ok (.i2l, 1) := by decide +kernel
theorem dX12_strike_63 : decode cX12_strike 63 = .ok (.lreturn, 1) := by decide +kernel
abbrev R_X12_strike : Room := ({ frames := 0, cells := 0, slots := 0, locals := 0 } : Room)
def f_X12_strike (gT : Gs) (x0 : Int32) (x1 : Int32) : Option (Int64) :=
  if x0 < 0 then (some (-1 : Int64)) else (if (63 : Int32) < x0 then (some (-1 : Int64)) else (if (gI gT 88) ≤ x0 then (some (-1 : Int64)) else (if x1 < 0 then (some (-1 : Int64)) else (if x1 ≤ (1 : Int32) then (if x1 = 0 then (grd (inB ((((gI gT 88) - (1 : Int32)) - x0) &&& (63 : Int32)) 64) (some (gLA gT 89 ((((gI gT 88) - (1 : Int32)) - x0) &&& (63 : Int32)).toNatClampNeg))) else (grd (inB ((((gI gT 88) - (1 : Int32)) - x0) &&& (63 : Int32)) 64) (some ((gIA gT 90 ((((gI gT 88) - (1 : Int32)) - x0) &&& (63 : Int32)).toNatClampNeg).toInt64)))) else (some (-1 : Int64))))))
set_option maxHeartbeats 4000000 in
set_option maxRecDepth 100000 in
theorem c_X12_strike (l : Launch) (D : Dx) (hT : Nat) (aT : Nat → Nat) (yT : Nat → ClassId) (gT : Gs) (x0 : Int32) (x1 : Int32) (q : Int64) (hF : f_X12_strike gT x0 x1 = some q) (sz : Nat) : Met l yX12_strike (ws_ yX12_strike cX12_strike 4 (some .long)) R_X12_strike (PC D (tX12 yT) [.ref hT, .int x0, .int x1] (wX12 hT aT yT gT) sz) (QL D (va_A (wX12 hT aT yT gT) sz) (wX12 hT aT yT gT) q) 0 0 (va_A (wX12 hT aT yT gT) sz) := by
  refine Met.ofW (cc := cX12_strike) (maxL := 4) (ret := (some .long)) (by decide) rfl ?_
  intro p e s m args below meth c s₁ B hml hv
  obtain ⟨rfl, hsz, hP, hK, hD, hN⟩ := hv
  subst hsz
  have C : Cx p s m _ meth c cX12_strike (some .long) 4 RX12 lw_all := Cx_of B hml
  have X := Hx_start hP hK hD hN
  obtain ⟨hx, hb, hr, -, hown, hts, hlk⟩ := id C
  generalize va_A (wX12 hT aT yT gT) s.heap.size = A at X ⊢
  have hl := lv_entry ([.ref hT, .int x0, .int x1]) (n := 4) (Nat.le_of_ble_eq_true rfl)
  rw [lg_entry_eq]
  generalize (lg_sl ([.ref hT, .int x0, .int x1]) ++ List.replicate (4 - (lg_sl ([.ref hT, .int x0, .int x1])).length) Slot.unset).toArray = ls at hl ⊢
  have hl : lv_has ls 4 [(0, .ref hT), (1, .int x0), (2, .int x1)] := hl
  unfold f_X12_strike at hF
  refine lv_iload_n hx hb dX12_strike_0 rfl (lv_at hl 1 rfl) ?_
  refine lv_if_lt (tgt := 27) hx hb dX12_strike_1 (by decide) (fun c => ?_) (fun c => ?_)
  · replace hF := iT c hF
    refine lv_ldc2 hx hb hown (hts _ q9_125) dX12_strike_27 ?_
    have hq := Option.some.inj hF
    subst hq
    exact rt_l C X dX12_strike_30
  · replace hF := iF c hF
    refine lv_iload_n hx hb dX12_strike_4 rfl (lv_at hl 1 rfl) ?_
    refine lv_bipush (v := (63 : Int32)) hx hb dX12_strike_5 (by decide) ?_
    refine lv_icmp_gt (tgt := 27) hx hb dX12_strike_7 (by decide) (fun c => ?_) (fun c => ?_)
    · replace hF := iT c hF
      refine lv_ldc2 hx hb hown (hts _ q9_125) dX12_strike_27 ?_
      have hq := Option.some.inj hF
      subst hq
      exact rt_l C X dX12_strike_30
    · replace hF := iF c hF
      refine lv_iload_n hx hb dX12_strike_10 rfl (lv_at hl 1 rfl) ?_
      refine lv_aload_n hx hb dX12_strike_11 rfl (lv_at hl 0 rfl) ?_
      refine va_get (D := D.1) (ci := 12) (v := .int (gI gT 88)) (C := RX12) (T := TX12) (N := 114) hx hb hts wi_X12 hown X.1 X.2.1 0 rfl rfl 88 (by decide) (hts _ q7_42) (fun _ h9 => h9) (fl_get (by decide)) dX12_strike_12 ?_
      refine lv_icmp_ge (tgt := 27) hx hb dX12_strike_15 (by decide) (fun c => ?_) (fun c => ?_)
      · replace hF := iT c hF
        refine lv_ldc2 hx hb hown (hts _ q9_125) dX12_strike_27 ?_
        have hq := Option.some.inj hF
        subst hq
        exact rt_l C X dX12_strike_30
      · replace hF := iF c hF
        refine lv_iload_n hx hb dX12_strike_18 rfl (lv_at hl 2 rfl) ?_
        refine lv_if_lt (tgt := 27) hx hb dX12_strike_19 (by decide) (fun c => ?_) (fun c => ?_)
        · replace hF := iT c hF
          refine lv_ldc2 hx hb hown (hts _ q9_125) dX12_strike_27 ?_
          have hq := Option.some.inj hF
          subst hq
          exact rt_l C X dX12_strike_30
        · replace hF := iF c hF
          refine lv_iload_n hx hb dX12_strike_22 rfl (lv_at hl 2 rfl) ?_
          refine lv_iconst (v := (1 : Int32)) hx hb dX12_strike_23 (by decide) ?_
          refine lv_icmp_le (tgt := 31) hx hb dX12_strike_24 (by decide) (fun c => ?_) (fun c => ?_)
          · replace hF := iT c hF
            refine lv_aload_n hx hb dX12_strike_31 rfl (lv_at hl 0 rfl) ?_
            refine va_get (D := D.1) (ci := 12) (v := .int (gI gT 88)) (C := RX12) (T := TX12) (N := 114) hx hb hts wi_X12 hown X.1 X.2.1 0 rfl rfl 88 (by decide) (hts _ q7_42) (fun _ h9 => h9) (fl_get (by decide)) dX12_strike_32 ?_
            refine lv_iconst (v := (1 : Int32)) hx hb dX12_strike_35 (by decide) ?_
            refine lv_isub hx hb dX12_strike_36 ?_
            refine lv_iload_n hx hb dX12_strike_37 rfl (lv_at hl 1 rfl) ?_
            refine lv_isub hx hb dX12_strike_38 ?_
            refine lv_bipush (v := (63 : Int32)) hx hb dX12_strike_39 (by decide) ?_
            refine lv_iand hx hb dX12_strike_41 ?_
            refine lv_istore_n (lv' := [(3, .int ((((gI gT 88) - (1 : Int32)) - x0) &&& (63 : Int32))), (0, .ref hT), (1, .int x0), (2, .int x1)]) hx hb dX12_strike_42 rfl hl (by decide) rfl (fun ls hl => ?_)
            refine lv_iload_n hx hb dX12_strike_43 rfl (lv_at hl 3 rfl) ?_
            refine lv_if_ne (tgt := 56) hx hb dX12_strike_44 (by decide) (fun c => ?_) (fun c => ?_)
            · replace hF := iF c hF
              refine lv_aload_n hx hb dX12_strike_56 rfl (lv_at hl 1 rfl) ?_
              refine va_get (D := D.1) (ci := 12) (v := .ref (aT 90)) (C := RX12) (T := TX12) (N := 114) hx hb hts wi_X12 hown X.1 X.2.1 0 rfl rfl 90 (by decide) (hts _ q7_44) (fun _ h9 => h9) (fl_get (by decide)) dX12_strike_57 ?_
              refine lv_iload_n hx hb dX12_strike_60 rfl (lv_at hl 0 rfl) ?_
              obtain ⟨h_1, hF⟩ := grd_some hF
              refine va_iald (D := D.1) (f := gIA gT 90) hx hb X.1 X.2.1 62 61 rfl rfl (inB_ok h_1) dX12_strike_61 ?_
              refine lv_i2l hx hb dX12_strike_62 rfl ?_
              have hq := Option.some.inj hF
              subst hq
              exact rt_l C X dX12_strike_63
            · replace hF := iT c hF
              refine lv_aload_n hx hb dX12_strike_47 rfl (lv_at hl 1 rfl) ?_
              refine va_get (D := D.1) (ci := 12) (v := .ref (aT 89)) (C := RX12) (T := TX12) (N := 114) hx hb hts wi_X12 hown X.1 X.2.1 0 rfl rfl 89 (by decide) (hts _ q7_43) (fun _ h9 => h9) (fl_get (by decide)) dX12_strike_48 ?_
              refine lv_iload_n hx hb dX12_strike_51 rfl (lv_at hl 0 rfl) ?_
              obtain ⟨h_2, hF⟩ := grd_some hF
              refine va_lald (D := D.1) (f := gLA gT 89) hx hb X.1 X.2.1 61 60 rfl rfl (inB_ok h_2) dX12_strike_52 ?_
              refine lv_goto (tgt := 63) hx hb dX12_strike_53 (by decide) ?_
              have hq := Option.some.inj hF
              subst hq
              exact rt_l C X dX12_strike_63
          · replace hF := iF c hF
            refine lv_ldc2 hx hb hown (hts _ q9_125) dX12_strike_27 ?_
            have hq := Option.some.inj hF
            subst hq
            exact rt_l C X dX12_strike_30

/-! ### X12_count -/
theorem dX12_count_0 : decode cX12_count 0 = .ok (.iload_n 1, 1) := by decide +kernel
theorem dX12_count_1 : decode cX12_count 1 = .ok (.tableswitch 101 0 7 #[47, 52, 57, 62, 67, 72, 91, 96], 47) := by decide +kernel
theorem dX12_count_48 : decode cX12_count 48 = .ok (.aload_n 0, 1) := by decide +kernel
theorem dX12_count_49 : decode cX12_count 49 = .ok (.getfield 238, 3) := by decide +kernel
theorem dX12_count_52 : decode cX12_count 52 = .ok (.ireturn, 1) := by decide +kernel
theorem dX12_count_53 : decode cX12_count 53 = .ok (.aload_n 0, 1) := by decide +kernel
theorem dX12_count_54 : decode cX12_count 54 = .ok (.getfield 241, 3) := by decide +kernel
theorem dX12_count_57 : decode cX12_count 57 = .ok (.ireturn, 1) := by decide +kernel
theorem dX12_count_58 : decode cX12_count 58 = .ok (.aload_n 0, 1) := by decide +kernel
theorem dX12_count_59 : decode cX12_count 59 = .ok (.getfield 244, 3) := by decide +kernel
theorem dX12_count_62 : decode cX12_count 62 = .ok (.ireturn, 1) := by decide +kernel
theorem dX12_count_63 : decode cX12_count 63 = .ok (.aload_n 0, 1) := by decide +kernel
theorem dX12_count_64 : decode cX12_count 64 = .ok (.getfield 247, 3) := by decide +kernel
theorem dX12_count_67 : decode cX12_count 67 = .ok (.ireturn, 1) := by decide +kernel
theorem dX12_count_68 : decode cX12_count 68 = .ok (.aload_n 0, 1) := by decide +kernel
theorem dX12_count_69 : decode cX12_count 69 = .ok (.getfield 13, 3) := by decide +kernel
theorem dX12_count_72 : decode cX12_count 72 = .ok (.ireturn, 1) := by decide +kernel
theorem dX12_count_73 : decode cX12_count 73 = .ok (.aload_n 0, 1) := by decide +kernel
theorem dX12_count_74 : decode cX12_count 74 = .ok (.getfield 323, 3) := by decide +kernel
theorem dX12_count_77 : decode cX12_count 77 = .ok (.bipush 64, 2) := by decide +kernel
theorem dX12_count_79 : decode cX12_count 79 = .ok (.if_icmp .ge 10, 3) := by decide +kernel
theorem dX12_count_82 : decode cX12_count 82 = .ok (.aload_n 0, 1) := by decide +kernel
theorem dX12_count_83 : decode cX12_count 83 = .ok (.getfield 323, 3) := by decide +kernel
theorem dX12_count_86 : decode cX12_count 86 = .ok (.goto 5, 3) := by decide +kernel
theorem dX12_count_89 : decode cX12_count 89 = .ok (.bipush 64, 2) := by decide +kernel
theorem dX12_count_91 : decode cX12_count 91 = .ok (.ireturn, 1) := by decide +kernel
theorem dX12_count_92 : decode cX12_count 92 = .ok (.aload_n 0, 1) := by decide +kernel
theorem dX12_count_93 : decode cX12_count 93 = .ok (.getfield 358, 3) := by decide +kernel
theorem dX12_count_96 : decode cX12_count 96 = .ok (.ireturn, 1) := by decide +kernel
theorem dX12_count_97 : decode cX12_count 97 = .ok (.aload_n 0, 1) := by decide +kernel
theorem dX12_count_98 : decode cX12_count 98 = .ok (.getfield 364, 3) := by decide +kernel
theorem dX12_count_101 : decode cX12_count 101 = .ok (.ireturn, 1) := by decide +kernel
theorem dX12_count_102 : decode cX12_count 102 = .ok (.iconst (-1), 1) := by decide +kernel
theorem dX12_count_103 : decode cX12_count 103 = .ok (.ireturn, 1) := by decide +kernel
abbrev R_X12_count : Room := ({ frames := 0, cells := 0, slots := 0, locals := 0 } : Room)
def f_X12_count (gT : Gs) (x0 : Int32) : Option (Int32) :=
  if x0 = (0 : Int32) then (some (gI gT 60)) else (if x0 = (1 : Int32) then (some (gI gT 61)) else (if x0 = (2 : Int32) then (some (gI gT 62)) else (if x0 = (3 : Int32) then (some (gI gT 63)) else (if x0 = (4 : Int32) then (some (gI gT 4)) else (if x0 = (5 : Int32) then (if (64 : Int32) ≤ (gI gT 88) then (some (64 : Int32)) else (some (gI gT 88))) else (if x0 = (6 : Int32) then (some (gI gT 99)) else (if x0 = (7 : Int32) then (some (gI gT 101)) else (some (-1 : Int32)))))))))
set_option maxHeartbeats 4000000 in
set_option maxRecDepth 100000 in
theorem c_X12_count (l : Launch) (D : Dx) (hT : Nat) (aT : Nat → Nat) (yT : Nat → ClassId) (gT : Gs) (x0 : Int32) (q : Int32) (hF : f_X12_count gT x0 = some q) (sz : Nat) : Met l yX12_count (ws_ yX12_count cX12_count 2 (some .int)) R_X12_count (PC D (tX12 yT) [.ref hT, .int x0] (wX12 hT aT yT gT) sz) (QI D (va_A (wX12 hT aT yT gT) sz) (wX12 hT aT yT gT) q) 0 0 (va_A (wX12 hT aT yT gT) sz) := by
  refine Met.ofW (cc := cX12_count) (maxL := 2) (ret := (some .int)) (by decide) rfl ?_
  intro p e s m args below meth c s₁ B hml hv
  obtain ⟨rfl, hsz, hP, hK, hD, hN⟩ := hv
  subst hsz
  have C : Cx p s m _ meth c cX12_count (some .int) 2 RX12 lw_all := Cx_of B hml
  have X := Hx_start hP hK hD hN
  obtain ⟨hx, hb, hr, -, hown, hts, hlk⟩ := id C
  generalize va_A (wX12 hT aT yT gT) s.heap.size = A at X ⊢
  have hl := lv_entry ([.ref hT, .int x0]) (n := 2) (Nat.le_of_ble_eq_true rfl)
  rw [lg_entry_eq]
  generalize (lg_sl ([.ref hT, .int x0]) ++ List.replicate (2 - (lg_sl ([.ref hT, .int x0])).length) Slot.unset).toArray = ls at hl ⊢
  have hl : lv_has ls 2 [(0, .ref hT), (1, .int x0)] := hl
  unfold f_X12_count at hF
  refine lv_iload_n hx hb dX12_count_0 rfl (lv_at hl 1 rfl) ?_
  by_cases c0 : x0 = (0 : Int32)
  · replace hF := iT c0 hF
    refine lv_tableIn (tgt := 48) (off := 47) hx hb dX12_count_1 (by rw [c0]; decide) (by rw [c0]; decide) (by rw [c0]; rfl) (by decide) ?_
    refine lv_aload_n hx hb dX12_count_48 rfl (lv_at hl 0 rfl) ?_
    refine va_get (D := D.1) (ci := 12) (v := .int (gI gT 60)) (C := RX12) (T := TX12) (N := 114) hx hb hts wi_X12 hown X.1 X.2.1 0 rfl rfl 60 (by decide) (hts _ q7_14) (fun _ h9 => h9) (fl_get (by decide)) dX12_count_49 ?_
    have hq := Option.some.inj hF
    subst hq
    exact rt_i C X dX12_count_52
  · replace hF := iF c0 hF
    by_cases c1 : x0 = (1 : Int32)
    · replace hF := iT c1 hF
      refine lv_tableIn (tgt := 53) (off := 52) hx hb dX12_count_1 (by rw [c1]; decide) (by rw [c1]; decide) (by rw [c1]; rfl) (by decide) ?_
      refine lv_aload_n hx hb dX12_count_53 rfl (lv_at hl 0 rfl) ?_
      refine va_get (D := D.1) (ci := 12) (v := .int (gI gT 61)) (C := RX12) (T := TX12) (N := 114) hx hb hts wi_X12 hown X.1 X.2.1 0 rfl rfl 61 (by decide) (hts _ q7_15) (fun _ h9 => h9) (fl_get (by decide)) dX12_count_54 ?_
      have hq := Option.some.inj hF
      subst hq
      exact rt_i C X dX12_count_57
    · replace hF := iF c1 hF
      by_cases c2 : x0 = (2 : Int32)
      · replace hF := iT c2 hF
        refine lv_tableIn (tgt := 58) (off := 57) hx hb dX12_count_1 (by rw [c2]; decide) (by rw [c2]; decide) (by rw [c2]; rfl) (by decide) ?_
        refine lv_aload_n hx hb dX12_count_58 rfl (lv_at hl 0 rfl) ?_
        refine va_get (D := D.1) (ci := 12) (v := .int (gI gT 62)) (C := RX12) (T := TX12) (N := 114) hx hb hts wi_X12 hown X.1 X.2.1 0 rfl rfl 62 (by decide) (hts _ q7_16) (fun _ h9 => h9) (fl_get (by decide)) dX12_count_59 ?_
        have hq := Option.some.inj hF
        subst hq
        exact rt_i C X dX12_count_62
      · replace hF := iF c2 hF
        by_cases c3 : x0 = (3 : Int32)
        · replace hF := iT c3 hF
          refine lv_tableIn (tgt := 63) (off := 62) hx hb dX12_count_1 (by rw [c3]; decide) (by rw [c3]; decide) (by rw [c3]; rfl) (by decide) ?_
          refine lv_aload_n hx hb dX12_count_63 rfl (lv_at hl 0 rfl) ?_
          refine va_get (D := D.1) (ci := 12) (v := .int (gI gT 63)) (C := RX12) (T := TX12) (N := 114) hx hb hts wi_X12 hown X.1 X.2.1 0 rfl rfl 63 (by decide) (hts _ q7_17) (fun _ h9 => h9) (fl_get (by decide)) dX12_count_64 ?_
          have hq := Option.some.inj hF
          subst hq
          exact rt_i C X dX12_count_67
        · replace hF := iF c3 hF
          by_cases c4 : x0 = (4 : Int32)
          · replace hF := iT c4 hF
            refine lv_tableIn (tgt := 68) (off := 67) hx hb dX12_count_1 (by rw [c4]; decide) (by rw [c4]; decide) (by rw [c4]; rfl) (by decide) ?_
            refine lv_aload_n hx hb dX12_count_68 rfl (lv_at hl 0 rfl) ?_
            refine va_get (D := D.1) (ci := 12) (v := .int (gI gT 4)) (C := RX12) (T := TX12) (N := 114) hx hb hts wi_X12 hown X.1 X.2.1 0 rfl rfl 4 (by decide) (hts _ q6_198) (fun _ h9 => h9) (fl_get (by decide)) dX12_count_69 ?_
            have hq := Option.some.inj hF
            subst hq
            exact rt_i C X dX12_count_72
          · replace hF := iF c4 hF
            by_cases c5 : x0 = (5 : Int32)
            · replace hF := iT c5 hF
              refine lv_tableIn (tgt := 73) (off := 72) hx hb dX12_count_1 (by rw [c5]; decide) (by rw [c5]; decide) (by rw [c5]; rfl) (by decide) ?_
              refine lv_aload_n hx hb dX12_count_73 rfl (lv_at hl 0 rfl) ?_
              refine va_get (D := D.1) (ci := 12) (v := .int (gI gT 88)) (C := RX12) (T := TX12) (N := 114) hx hb hts wi_X12 hown X.1 X.2.1 0 rfl rfl 88 (by decide) (hts _ q7_42) (fun _ h9 => h9) (fl_get (by decide)) dX12_count_74 ?_
              refine lv_bipush (v := (64 : Int32)) hx hb dX12_count_77 (by decide) ?_
              refine lv_icmp_ge (tgt := 89) hx hb dX12_count_79 (by decide) (fun c => ?_) (fun c => ?_)
              · replace hF := iT c hF
                refine lv_bipush (v := (64 : Int32)) hx hb dX12_count_89 (by decide) ?_
                have hq := Option.some.inj hF
                subst hq
                exact rt_i C X dX12_count_91
              · replace hF := iF c hF
                refine lv_aload_n hx hb dX12_count_82 rfl (lv_at hl 0 rfl) ?_
                refine va_get (D := D.1) (ci := 12) (v := .int (gI gT 88)) (C := RX12) (T := TX12) (N := 114) hx hb hts wi_X12 hown X.1 X.2.1 0 rfl rfl 88 (by decide) (hts _ q7_42) (fun _ h9 => h9) (fl_get (by decide)) dX12_count_83 ?_
                refine lv_goto (tgt := 91) hx hb dX12_count_86 (by decide) ?_
                have hq := Option.some.inj hF
                subst hq
                exact rt_i C X dX12_count_91
            · replace hF := iF c5 hF
              by_cases c6 : x0 = (6 : Int32)
              · replace hF := iT c6 hF
                refine lv_tableIn (tgt := 92) (off := 91) hx hb dX12_count_1 (by rw [c6]; decide) (by rw [c6]; decide) (by rw [c6]; rfl) (by decide) ?_
                refine lv_aload_n hx hb dX12_count_92 rfl (lv_at hl 0 rfl) ?_
                refine va_get (D := D.1) (ci := 12) (v := .int (gI gT 99)) (C := RX12) (T := TX12) (N := 114) hx hb hts wi_X12 hown X.1 X.2.1 0 rfl rfl 99 (by decide) (hts _ q7_53) (fun _ h9 => h9) (fl_get (by decide)) dX12_count_93 ?_
                have hq := Option.some.inj hF
                subst hq
                exact rt_i C X dX12_count_96
              · replace hF := iF c6 hF
                by_cases c7 : x0 = (7 : Int32)
                · replace hF := iT c7 hF
                  refine lv_tableIn (tgt := 97) (off := 96) hx hb dX12_count_1 (by rw [c7]; decide) (by rw [c7]; decide) (by rw [c7]; rfl) (by decide) ?_
                  refine lv_aload_n hx hb dX12_count_97 rfl (lv_at hl 0 rfl) ?_
                  refine va_get (D := D.1) (ci := 12) (v := .int (gI gT 101)) (C := RX12) (T := TX12) (N := 114) hx hb hts wi_X12 hown X.1 X.2.1 0 rfl rfl 101 (by decide) (hts _ q7_55) (fun _ h9 => h9) (fl_get (by decide)) dX12_count_98 ?_
                  have hq := Option.some.inj hF
                  subst hq
                  exact rt_i C X dX12_count_101
                · replace hF := iF c7 hF
                  refine lv_tableOut (tgt := 102) hx hb dX12_count_1 (tbl_out (0) (7) 8 (by decide) ⟨tne c0 (by decide), ⟨tne c1 (by decide), ⟨tne c2 (by decide), ⟨tne c3 (by decide), ⟨tne c4 (by decide), ⟨tne c5 (by decide), ⟨tne c6 (by decide), ⟨tne c7 (by decide), trivial⟩⟩⟩⟩⟩⟩⟩⟩) (by decide) ?_
                  refine lv_iconst (v := (-1 : Int32)) hx hb dX12_count_102 (by decide) ?_
                  have hq := Option.some.inj hF
                  subst hq
                  exact rt_i C X dX12_count_103

/-! ### X12_rowOfName -/
theorem dX12_rowOfName_0 : decode cX12_rowOfName 0 = .ok (.iload_n 1, 1) := by decide +kernel
theorem dX12_rowOfName_1 : decode cX12_rowOfName 1 = .ok (.ifCond .lt 13, 3) := by decide +kernel
theorem dX12_rowOfName_4 : decode cX12_rowOfName 4 = .ok (.iload_n 1, 1) := by decide +kernel
theorem dX12_rowOfName_5 : decode cX12_rowOfName 5 = .ok (.aload_n 0, 1) := by decide +kernel
theorem dX12_rowOfName_6 : decode cX12_rowOfName 6 = .ok (.getfield 238, 3) := by decide +kernel
theorem dX12_rowOfName_9 : decode cX12_rowOfName 9 = .ok (.if_icmp .ge 5, 3) := by decide +kernel
theorem dX12_rowOfName_12 : decode cX12_rowOfName 12 = .ok (.iload_n 1, 1) := by decide +kernel
theorem dX12_rowOfName_13 : decode cX12_rowOfName 13 = .ok (.ireturn, 1) := by decide +kernel
theorem dX12_rowOfName_14 : decode cX12_rowOfName 14 = .ok (.iload_n 1, 1) := by decide +kernel
theorem dX12_rowOfName_15 : decode cX12_rowOfName 15 = .ok (.bipush 100, 2) := by decide +kernel
theorem dX12_rowOfName_17 : decode cX12_rowOfName 17 = .ok (.if_icmp .lt 19, 3) := by decide +kernel
theorem dX12_rowOfName_20 : decode cX12_rowOfName 20 = .ok (.iload_n 1, 1) := by decide +kernel
theorem dX12_rowOfName_21 : decode cX12_rowOfName 21 = .ok (.bipush 100, 2) := by decide +kernel
theorem dX12_rowOfName_23 : decode cX12_rowOfName 23 = .ok (.aload_n 0, 1) := by decide +kernel
theorem dX12_rowOfName_24 : decode cX12_rowOfName 24 = .ok (.getfield 241, 3) := by decide +kernel
theorem dX12_rowOfName_27 : decode cX12_rowOfName 27 = .ok (.iadd, 1) := by decide +kernel
theorem dX12_rowOfName_28 : decode cX12_rowOfName 28 = .ok (.if_icmp .ge 8, 3) := by decide +kernel
theorem dX12_rowOfName_31 : decode cX12_rowOfName 31 = .ok (.iload_n 1, 1) := by decide +kernel
theorem dX12_rowOfName_32 : decode cX12_rowOfName 32 = .ok (.bipush 60, 2) := by decide +kernel
theorem dX12_rowOfName_34 : decode cX12_rowOfName 34 = .ok (.isub, 1) := by decide +kernel
theorem dX12_rowOfName_35 : decode cX12_rowOfName 35 = .ok (.ireturn, 1) := by decide +kernel
theorem dX12_rowOfName_36 : decode cX12_rowOfName 36 = .ok (.iload_n 1, 1) := by decide +kernel
theorem dX12_rowOfName_37 : decode cX12_rowOfName 37 = .ok (.sipush 200, 3) := by decide +kernel
theorem dX12_rowOfName_40 : decode cX12_rowOfName 40 = .ok (.if_icmp .lt 21, 3) := by decide +kernel
theorem dX12_rowOfName_43 : decode cX12_rowOfName 43 = .ok (.iload_n 1, 1) := by decide +kernel
theorem dX12_rowOfName_44 : decode cX12_rowOfName 44 = .ok (.sipush 200, 3) := by decide +kernel
theorem dX12_rowOfName_47 : decode cX12_rowOfName 47 = .ok (.aload_n 0, 1) := by decide +kernel
theorem dX12_rowOfName_48 : decode cX12_rowOfName 48 = .ok (.getfield 244, 3) := by decide +kernel
theorem dX12_rowOfName_51 : decode cX12_rowOfName 51 = .ok (.iadd, 1) := by decide +kernel
theorem dX12_rowOfName_52 : decode cX12_rowOfName 52 = .ok (.if_icmp .ge 9, 3) := by decide +kernel
theorem dX12_rowOfName_55 : decode cX12_rowOfName 55 = .ok (.iload_n 1, 1) := by decide +kernel
theorem dX12_rowOfName_56 : decode cX12_rowOfName 56 = .ok (.sipush 148, 3) := by decide +kernel
theorem dX12_rowOfName_59 : decode cX12_rowOfName 59 = .ok (.isub, 1) := by decide +kernel
theorem dX12_rowOfName_60 : decode cX12_rowOfName 60 = .ok (.ireturn, 1) := by decide +kernel
theorem dX12_rowOfName_61 : decode cX12_rowOfName 61 = .ok (.iconst (-1), 1) := by decide +kernel
theorem dX12_rowOfName_62 : decode cX12_rowOfName 62 = .ok (.ireturn, 1) := by decide +kernel
abbrev R_X12_rowOfName : Room := ({ frames := 0, cells := 0, slots := 0, locals := 0 } : Room)
def b_X12_rowOfName_36 (gT : Gs) (v1 : Int32) : Option (Int32) :=
  if v1 < (200 : Int32) then (some (-1 : Int32)) else (if ((200 : Int32) + (gI gT 62)) ≤ v1 then (some (-1 : Int32)) else (some (v1 - (148 : Int32))))
def b_X12_rowOfName_14 (gT : Gs) (v1 : Int32) : Option (Int32) :=
  if v1 < (100 : Int32) then (b_X12_rowOfName_36 gT v1) else (if ((100 : Int32) + (gI gT 61)) ≤ v1 then (b_X12_rowOfName_36 gT v1) else (some (v1 - (60 : Int32))))
def f_X12_rowOfName (gT : Gs) (x0 : Int32) : Option (Int32) :=
  if x0 < 0 then (b_X12_rowOfName_14 gT x0) else (if (gI gT 60) ≤ x0 then (b_X12_rowOfName_14 gT x0) else (some x0))
def S_X12_rowOfName_36 (l : Launch) (D : Dx) (hT : Nat) (aT : Nat → Nat) (yT : Nat → ClassId) (fn : Gs → Int32 → Option (Int32)) : Prop :=
  ∀ {p : Program} {e : Env} {s : State} {m : MethodId} {args : Array Value} {below : List Frame} {meth : Method} {c : Code} {H : Heap} {locs : List Loc} {A : Nat → Prop} {ls : Array Slot} {gT : Gs} {v1 : Int32} {q : Int32}, Cx p s m args meth c cX12_rowOfName (some .int) 2 RX12 lw_all → Hx D (tX12 yT) A s H locs (wX12 hT aT yT gT) → lv_has ls 2 [(0, .ref hT), (1, .int v1)] → fn gT v1 = some q → W p l e R_X12_rowOfName s m args below meth c H locs 0 0 (MQ below (QI D A (wX12 hT aT yT gT) q) args s 0 0 A) (F0 m 36 ls [])
def S_X12_rowOfName_14 (l : Launch) (D : Dx) (hT : Nat) (aT : Nat → Nat) (yT : Nat → ClassId) (fn : Gs → Int32 → Option (Int32)) : Prop :=
  ∀ {p : Program} {e : Env} {s : State} {m : MethodId} {args : Array Value} {below : List Frame} {meth : Method} {c : Code} {H : Heap} {locs : List Loc} {A : Nat → Prop} {ls : Array Slot} {gT : Gs} {v1 : Int32} {q : Int32}, Cx p s m args meth c cX12_rowOfName (some .int) 2 RX12 lw_all → Hx D (tX12 yT) A s H locs (wX12 hT aT yT gT) → lv_has ls 2 [(0, .ref hT), (1, .int v1)] → fn gT v1 = some q → W p l e R_X12_rowOfName s m args below meth c H locs 0 0 (MQ below (QI D A (wX12 hT aT yT gT) q) args s 0 0 A) (F0 m 14 ls [])
set_option maxHeartbeats 4000000 in
set_option maxRecDepth 100000 in
theorem k_X12_rowOfName_36 (l : Launch) (D : Dx) (hT : Nat) (aT : Nat → Nat) (yT : Nat → ClassId) : S_X12_rowOfName_36 l D hT aT yT (b_X12_rowOfName_36) := by
  intro p e s m args below meth c H locs A ls gT v1 q C X hl hF
  obtain ⟨hx, hb, hr, hml, hown, hts, hlk⟩ := id C
  unfold b_X12_rowOfName_36 at hF
  refine lv_iload_n hx hb dX12_rowOfName_36 rfl (lv_at hl 1 rfl) ?_
  refine lv_sipush (v := (200 : Int32)) hx hb dX12_rowOfName_37 (by decide) ?_
  refine lv_icmp_lt (tgt := 61) hx hb dX12_rowOfName_40 (by decide) (fun c => ?_) (fun c => ?_)
  · replace hF := iT c hF
    refine lv_iconst (v := (-1 : Int32)) hx hb dX12_rowOfName_61 (by decide) ?_
    have hq := Option.some.inj hF
    subst hq
    exact rt_i C X dX12_rowOfName_62
  · replace hF := iF c hF
    refine lv_iload_n hx hb dX12_rowOfName_43 rfl (lv_at hl 1 rfl) ?_
    refine lv_sipush (v := (200 : Int32)) hx hb dX12_rowOfName_44 (by decide) ?_
    refine lv_aload_n hx hb dX12_rowOfName_47 rfl (lv_at hl 0 rfl) ?_
    refine va_get (D := D.1) (ci := 12) (v := .int (gI gT 62)) (C := RX12) (T := TX12) (N := 114) hx hb hts wi_X12 hown X.1 X.2.1 0 rfl rfl 62 (by decide) (hts _ q7_16) (fun _ h9 => h9) (fl_get (by decide)) dX12_rowOfName_48 ?_
    refine lv_iadd hx hb dX12_rowOfName_51 ?_
    refine lv_icmp_ge (tgt := 61) hx hb dX12_rowOfName_52 (by decide) (fun c => ?_) (fun c => ?_)
    · replace hF := iT c hF
      refine lv_iconst (v := (-1 : Int32)) hx hb dX12_rowOfName_61 (by decide) ?_
      have hq := Option.some.inj hF
      subst hq
      exact rt_i C X dX12_rowOfName_62
    · replace hF := iF c hF
      refine lv_iload_n hx hb dX12_rowOfName_55 rfl (lv_at hl 1 rfl) ?_
      refine lv_sipush (v := (148 : Int32)) hx hb dX12_rowOfName_56 (by decide) ?_
      refine lv_isub hx hb dX12_rowOfName_59 ?_
      have hq := Option.some.inj hF
      subst hq
      exact rt_i C X dX12_rowOfName_60
set_option maxHeartbeats 4000000 in
set_option maxRecDepth 100000 in
theorem k_X12_rowOfName_14 (l : Launch) (D : Dx) (hT : Nat) (aT : Nat → Nat) (yT : Nat → ClassId) : S_X12_rowOfName_14 l D hT aT yT (b_X12_rowOfName_14) := by
  intro p e s m args below meth c H locs A ls gT v1 q C X hl hF
  obtain ⟨hx, hb, hr, hml, hown, hts, hlk⟩ := id C
  unfold b_X12_rowOfName_14 at hF
  refine lv_iload_n hx hb dX12_rowOfName_14 rfl (lv_at hl 1 rfl) ?_
  refine lv_bipush (v := (100 : Int32)) hx hb dX12_rowOfName_15 (by decide) ?_
  refine lv_icmp_lt (tgt := 36) hx hb dX12_rowOfName_17 (by decide) (fun c => ?_) (fun c => ?_)
  · replace hF := iT c hF
    exact (k_X12_rowOfName_36 l D hT aT yT) C X (lv_sub hl [0, 1] rfl) hF
  · replace hF := iF c hF
    refine lv_iload_n hx hb dX12_rowOfName_20 rfl (lv_at hl 1 rfl) ?_
    refine lv_bipush (v := (100 : Int32)) hx hb dX12_rowOfName_21 (by decide) ?_
    refine lv_aload_n hx hb dX12_rowOfName_23 rfl (lv_at hl 0 rfl) ?_
    refine va_get (D := D.1) (ci := 12) (v := .int (gI gT 61)) (C := RX12) (T := TX12) (N := 114) hx hb hts wi_X12 hown X.1 X.2.1 0 rfl rfl 61 (by decide) (hts _ q7_15) (fun _ h9 => h9) (fl_get (by decide)) dX12_rowOfName_24 ?_
    refine lv_iadd hx hb dX12_rowOfName_27 ?_
    refine lv_icmp_ge (tgt := 36) hx hb dX12_rowOfName_28 (by decide) (fun c => ?_) (fun c => ?_)
    · replace hF := iT c hF
      exact (k_X12_rowOfName_36 l D hT aT yT) C X (lv_sub hl [0, 1] rfl) hF
    · replace hF := iF c hF
      refine lv_iload_n hx hb dX12_rowOfName_31 rfl (lv_at hl 1 rfl) ?_
      refine lv_bipush (v := (60 : Int32)) hx hb dX12_rowOfName_32 (by decide) ?_
      refine lv_isub hx hb dX12_rowOfName_34 ?_
      have hq := Option.some.inj hF
      subst hq
      exact rt_i C X dX12_rowOfName_35
set_option maxHeartbeats 4000000 in
set_option maxRecDepth 100000 in
theorem c_X12_rowOfName (l : Launch) (D : Dx) (hT : Nat) (aT : Nat → Nat) (yT : Nat → ClassId) (gT : Gs) (x0 : Int32) (q : Int32) (hF : f_X12_rowOfName gT x0 = some q) (sz : Nat) : Met l yX12_rowOfName (ws_ yX12_rowOfName cX12_rowOfName 2 (some .int)) R_X12_rowOfName (PC D (tX12 yT) [.ref hT, .int x0] (wX12 hT aT yT gT) sz) (QI D (va_A (wX12 hT aT yT gT) sz) (wX12 hT aT yT gT) q) 0 0 (va_A (wX12 hT aT yT gT) sz) := by
  refine Met.ofW (cc := cX12_rowOfName) (maxL := 2) (ret := (some .int)) (by decide) rfl ?_
  intro p e s m args below meth c s₁ B hml hv
  obtain ⟨rfl, hsz, hP, hK, hD, hN⟩ := hv
  subst hsz
  have C : Cx p s m _ meth c cX12_rowOfName (some .int) 2 RX12 lw_all := Cx_of B hml
  have X := Hx_start hP hK hD hN
  obtain ⟨hx, hb, hr, -, hown, hts, hlk⟩ := id C
  generalize va_A (wX12 hT aT yT gT) s.heap.size = A at X ⊢
  have hl := lv_entry ([.ref hT, .int x0]) (n := 2) (Nat.le_of_ble_eq_true rfl)
  rw [lg_entry_eq]
  generalize (lg_sl ([.ref hT, .int x0]) ++ List.replicate (2 - (lg_sl ([.ref hT, .int x0])).length) Slot.unset).toArray = ls at hl ⊢
  have hl : lv_has ls 2 [(0, .ref hT), (1, .int x0)] := hl
  unfold f_X12_rowOfName at hF
  refine lv_iload_n hx hb dX12_rowOfName_0 rfl (lv_at hl 1 rfl) ?_
  refine lv_if_lt (tgt := 14) hx hb dX12_rowOfName_1 (by decide) (fun c => ?_) (fun c => ?_)
  · replace hF := iT c hF
    exact (k_X12_rowOfName_14 l D hT aT yT) C X (lv_sub hl [0, 1] rfl) hF
  · replace hF := iF c hF
    refine lv_iload_n hx hb dX12_rowOfName_4 rfl (lv_at hl 1 rfl) ?_
    refine lv_aload_n hx hb dX12_rowOfName_5 rfl (lv_at hl 0 rfl) ?_
    refine va_get (D := D.1) (ci := 12) (v := .int (gI gT 60)) (C := RX12) (T := TX12) (N := 114) hx hb hts wi_X12 hown X.1 X.2.1 0 rfl rfl 60 (by decide) (hts _ q7_14) (fun _ h9 => h9) (fl_get (by decide)) dX12_rowOfName_6 ?_
    refine lv_icmp_ge (tgt := 14) hx hb dX12_rowOfName_9 (by decide) (fun c => ?_) (fun c => ?_)
    · replace hF := iT c hF
      exact (k_X12_rowOfName_14 l D hT aT yT) C X (lv_sub hl [0, 1] rfl) hF
    · replace hF := iF c hF
      refine lv_iload_n hx hb dX12_rowOfName_12 rfl (lv_at hl 1 rfl) ?_
      have hq := Option.some.inj hF
      subst hq
      exact rt_i C X dX12_rowOfName_13

/-! ### X12_thing_ -/
theorem dX12_thing__0 : decode cX12_thing_ 0 = .ok (.aload_n 0, 1) := by decide +kernel
theorem dX12_thing__1 : decode cX12_thing_ 1 = .ok (.iload_n 1, 1) := by decide +kernel
theorem dX12_thing__2 : decode cX12_thing_ 2 = .ok (.invokevirtual 728, 3) := by decide +kernel
theorem dX12_thing__5 : decode cX12_thing_ 5 = .ok (.istore_n 3, 1) := by decide +kernel
theorem dX12_thing__6 : decode cX12_thing_ 6 = .ok (.iload_n 3, 1) := by decide +kernel
theorem dX12_thing__7 : decode cX12_thing_ 7 = .ok (.ifCond .lt 9, 3) := by decide +kernel
theorem dX12_thing__10 : decode cX12_thing_ 10 = .ok (.iload_n 3, 1) := by decide +kernel
theorem dX12_thing__11 : decode cX12_thing_ 11 = .ok (.bipush 52, 2) := by decide +kernel
theorem dX12_thing__13 : decode cX12_thing_ 13 = .ok (.if_icmp .lt 5, 3) := by decide +kernel
theorem dX12_thing__16 : decode cX12_thing_ 16 = .ok (.iconst (-1), 1) := by decide +kernel
theorem dX12_thing__17 : decode cX12_thing_ 17 = .ok (.ireturn, 1) := by decide +kernel
theorem dX12_thing__18 : decode cX12_thing_ 18 = .ok (.iload_n 3, 1) := by decide +kernel
theorem dX12_thing__19 : decode cX12_thing_ 19 = .ok (.bipush 40, 2) := by decide +kernel
theorem dX12_thing__21 : decode cX12_thing_ 21 = .ok (.if_icmp .lt 7, 3) := by decide +kernel
theorem dX12_thing__24 : decode cX12_thing_ 24 = .ok (.iconst 1, 1) := by decide +kernel
theorem dX12_thing__25 : decode cX12_thing_ 25 = .ok (.goto 4, 3) := by decide +kernel
theorem dX12_thing__28 : decode cX12_thing_ 28 = .ok (.iconst 0, 1) := by decide +kernel
theorem dX12_thing__29 : decode cX12_thing_ 29 = .ok (.istore 4, 2) := by decide +kernel
theorem dX12_thing__31 : decode cX12_thing_ 31 = .ok (.iload_n 2, 1) := by decide +kernel
theorem dX12_thing__32 : decode cX12_thing_ 32 = .ok (.tableswitch 131 0 6 #[44, 60, 84, 91, 98, 105, 112], 44) := by decide +kernel
theorem dX12_thing__76 : decode cX12_thing_ 76 = .ok (.iload 4, 2) := by decide +kernel
theorem dX12_thing__78 : decode cX12_thing_ 78 = .ok (.ifCond .eq 7, 3) := by decide +kernel
theorem dX12_thing__81 : decode cX12_thing_ 81 = .ok (.iconst (-1), 1) := by decide +kernel
theorem dX12_thing__82 : decode cX12_thing_ 82 = .ok (.goto 9, 3) := by decide +kernel
theorem dX12_thing__85 : decode cX12_thing_ 85 = .ok (.aload_n 0, 1) := by decide +kernel
theorem dX12_thing__86 : decode cX12_thing_ 86 = .ok (.getfield 259, 3) := by decide +kernel
theorem dX12_thing__89 : decode cX12_thing_ 89 = .ok (.iload_n 3, 1) := by decide +kernel
theorem dX12_thing__90 : decode cX12_thing_ 90 = .ok (.iaload, 1) := by decide +kernel
theorem dX12_thing__91 : decode cX12_thing_ 91 = .ok (.ireturn, 1) := by decide +kernel
theorem dX12_thing__92 : decode cX12_thing_ 92 = .ok (.iload 4, 2) := by decide +kernel
theorem dX12_thing__94 : decode cX12_thing_ 94 = .ok (.ifCond .eq 7, 3) := by decide +kernel
theorem dX12_thing__97 : decode cX12_thing_ 97 = .ok (.iconst (-1), 1) := by decide +kernel
theorem dX12_thing__98 : decode cX12_thing_ 98 = .ok (.goto 17, 3) := by decide +kernel
theorem dX12_thing__101 : decode cX12_thing_ 101 = .ok (.aload_n 0, 1) := by decide +kernel
theorem dX12_thing__102 : decode cX12_thing_ 102 = .ok (.getfield 262, 3) := by decide +kernel
theorem dX12_thing__105 : decode cX12_thing_ 105 = .ok (.iload_n 3, 1) := by decide +kernel
theorem dX12_thing__106 : decode cX12_thing_ 106 = .ok (.baload, 1) := by decide +kernel
theorem dX12_thing__107 : decode cX12_thing_ 107 = .ok (.ifCond .eq 7, 3) := by decide +kernel
theorem dX12_thing__110 : decode cX12_thing_ 110 = .ok (.iconst 1, 1) := by decide +kernel
theorem dX12_thing__111 : decode cX12_thing_ 111 = .ok (.goto 4, 3) := by decide +kernel
theorem dX12_thing__114 : decode cX12_thing_ 114 = .ok (.iconst 0, 1) := by decide +kernel
theorem dX12_thing__115 : decode cX12_thing_ 115 = .ok (.ireturn, 1) := by decide +kernel
theorem dX12_thing__116 : decode cX12_thing_ 116 = .ok (.aload_n 0, 1) := by decide +kernel
theorem dX12_thing__117 : decode cX12_thing_ 117 = .ok (.getfield 256, 3) := by decide +kernel
theorem dX12_thing__120 : decode cX12_thing_ 120 = .ok (.iload_n 3, 1) := by decide +kernel
theorem dX12_thing__121 : decode cX12_thing_ 121 = .ok (.iaload, 1) := by decide +kernel
theorem dX12_thing__122 : decode cX12_thing_ 122 = .ok (.ireturn, 1) := by decide +kernel
theorem dX12_thing__123 : decode cX12_thing_ 123 = .ok (.aload_n 0, 1) := by decide +kernel
theorem dX12_thing__124 : decode cX12_thing_ 124 = .ok (.getfield 307, 3) := by decide +kernel
theorem dX12_thing__127 : decode cX12_thing_ 127 = .ok (.iload_n 3, 1) := by decide +kernel
theorem dX12_thing__128 : decode cX12_thing_ 128 = .ok (.iaload, 1) := by decide +kernel
theorem dX12_thing__129 : decode cX12_thing_ 129 = .ok (.ireturn, 1) := by decide +kernel
theorem dX12_thing__130 : decode cX12_thing_ 130 = .ok (.aload_n 0, 1) := by decide +kernel
theorem dX12_thing__131 : decode cX12_thing_ 131 = .ok (.getfield 310, 3) := by decide +kernel
theorem dX12_thing__134 : decode cX12_thing_ 134 = .ok (.iload_n 3, 1) := by decide +kernel
theorem dX12_thing__135 : decode cX12_thing_ 135 = .ok (.iaload, 1) := by decide +kernel
theorem dX12_thing__136 : decode cX12_thing_ 136 = .ok (.ireturn, 1) := by decide +kernel
theorem dX12_thing__137 : decode cX12_thing_ 137 = .ok (.aload_n 0, 1) := by decide +kernel
theorem dX12_thing__138 : decode cX12_thing_ 138 = .ok (.getfield 313, 3) := by decide +kernel
theorem dX12_thing__141 : decode cX12_thing_ 141 = .ok (.iload_n 3, 1) := by decide +kernel
theorem dX12_thing__142 : decode cX12_thing_ 142 = .ok (.iaload, 1) := by decide +kernel
theorem dX12_thing__143 : decode cX12_thing_ 143 = .ok (.ireturn, 1) := by decide +kernel
theorem dX12_thing__144 : decode cX12_thing_ 144 = .ok (.iload 4, 2) := by decide +kernel
theorem dX12_thing__146 : decode cX12_thing_ 146 = .ok (.ifCond .eq 15, 3) := by decide +kernel
theorem dX12_thing__149 : decode cX12_thing_ 149 = .ok (.aload_n 0, 1) := by decide +kernel
theorem dX12_thing__150 : decode cX12_thing_ 150 = .ok (.getfield 316, 3) := by decide +kernel
theorem dX12_thing__153 : decode cX12_thing_ 153 = .ok (.iload_n 3, 1) := by decide +kernel
theorem dX12_thing__154 : decode cX12_thing_ 154 = .ok (.bipush 40, 2) := by decide +kernel
theorem dX12_thing__156 : decode cX12_thing_ 156 = .ok (.isub, 1) := by decide +kernel
theorem dX12_thing__157 : decode cX12_thing_ 157 = .ok (.iaload, 1) := by decide +kernel
theorem dX12_thing__158 : decode cX12_thing_ 158 = .ok (.goto 4, 3) := by decide +kernel
theorem dX12_thing__161 : decode cX12_thing_ 161 = .ok (.iconst (-1), 1) := by decide +kernel
theorem dX12_thing__162 : decode cX12_thing_ 162 = .ok (.ireturn, 1) := by decide +kernel
theorem dX12_thing__163 : decode cX12_thing_ 163 = .ok (.iconst (-1), 1) := by decide +kernel
theorem dX12_thing__164 : decode cX12_thing_ 164 = .ok (.ireturn, 1) := by decide +kernel
abbrev R_X12_thing_ : Room := ({ frames := 1, cells := 0, slots := 0, locals := 21 } : Room)
def b_X12_thing__29 (gT : Gs) (v2 : Int32) (v3 : Int32) (s0 : Int32) : Option (Int32) :=
  if v2 = (0 : Int32) then (if s0 = 0 then (grd (inB v3 40) (some (gIA gT 67 v3.toNatClampNeg))) else (some (-1 : Int32))) else (if v2 = (1 : Int32) then (if s0 = 0 then (grd (inB v3 40) (if (gIA gT 68 v3.toNatClampNeg) = 0 then (some (0 : Int32)) else (some (1 : Int32)))) else (some (-1 : Int32))) else (if v2 = (2 : Int32) then (grd (inB v3 60) (some (gIA gT 66 v3.toNatClampNeg))) else (if v2 = (3 : Int32) then (grd (inB v3 52) (some (gIA gT 83 v3.toNatClampNeg))) else (if v2 = (4 : Int32) then (grd (inB v3 52) (some (gIA gT 84 v3.toNatClampNeg))) else (if v2 = (5 : Int32) then (grd (inB v3 52) (some (gIA gT 85 v3.toNatClampNeg))) else (if v2 = (6 : Int32) then (if s0 = 0 then (some (-1 : Int32)) else (grd (inB (v3 - (40 : Int32)) 12) (some (gIA gT 86 (v3 - (40 : Int32)).toNatClampNeg)))) else (some (-1 : Int32))))))))
def f_X12_thing_ (gT : Gs) (x0 : Int32) (x1 : Int32) : Option (Int32) :=
  bnd (f_X12_rowOfName gT x0) (fun q_1 => if q_1 < 0 then (some (-1 : Int32)) else (if q_1 < (52 : Int32) then (if q_1 < (40 : Int32) then (b_X12_thing__29 gT x1 q_1 (0 : Int32)) else (b_X12_thing__29 gT x1 q_1 (1 : Int32))) else (some (-1 : Int32))))
def S_X12_thing__29 (l : Launch) (D : Dx) (hT : Nat) (aT : Nat → Nat) (yT : Nat → ClassId) (fn : Gs → Int32 → Int32 → Int32 → Option (Int32)) : Prop :=
  ∀ {p : Program} {e : Env} {s : State} {m : MethodId} {args : Array Value} {below : List Frame} {meth : Method} {c : Code} {H : Heap} {locs : List Loc} {A : Nat → Prop} {ls : Array Slot} {gT : Gs} {v2 : Int32} {v3 : Int32} {s0 : Int32} {q : Int32}, Cx p s m args meth c cX12_thing_ (some .int) 5 RX12 lw_all → Hx D (tX12 yT) A s H locs (wX12 hT aT yT gT) → lv_has ls 5 [(0, .ref hT), (2, .int v2), (3, .int v3)] → fn gT v2 v3 s0 = some q → W p l e R_X12_thing_ s m args below meth c H locs 0 0 (MQ below (QI D A (wX12 hT aT yT gT) q) args s 0 0 A) (F0 m 29 ls [.int s0])
set_option maxHeartbeats 4000000 in
set_option maxRecDepth 100000 in
theorem k_X12_thing__29 (l : Launch) (D : Dx) (hT : Nat) (aT : Nat → Nat) (yT : Nat → ClassId) : S_X12_thing__29 l D hT aT yT (b_X12_thing__29) := by
  intro p e s m args below meth c H locs A ls gT v2 v3 s0 q C X hl hF
  obtain ⟨hx, hb, hr, hml, hown, hts, hlk⟩ := id C
  unfold b_X12_thing__29 at hF
  refine lv_istore (lv' := [(4, .int s0), (0, .ref hT), (2, .int v2), (3, .int v3)]) hx hb dX12_thing__29 hl (by decide) rfl (fun ls hl => ?_)
  refine lv_iload_n hx hb dX12_thing__31 rfl (lv_at hl 2 rfl) ?_
  by_cases c0 : v2 = (0 : Int32)
  · replace hF := iT c0 hF
    refine lv_tableIn (tgt := 76) (off := 44) hx hb dX12_thing__32 (by rw [c0]; decide) (by rw [c0]; decide) (by rw [c0]; rfl) (by decide) ?_
    refine lv_iload hx hb dX12_thing__76 (lv_at hl 0 rfl) ?_
    refine lv_if_eq (tgt := 85) hx hb dX12_thing__78 (by decide) (fun c => ?_) (fun c => ?_)
    · replace hF := iT c hF
      refine lv_aload_n hx hb dX12_thing__85 rfl (lv_at hl 1 rfl) ?_
      refine va_get (D := D.1) (ci := 12) (v := .ref (aT 67)) (C := RX12) (T := TX12) (N := 114) hx hb hts wi_X12 hown X.1 X.2.1 0 rfl rfl 67 (by decide) (hts _ q7_21) (fun _ h9 => h9) (fl_get (by decide)) dX12_thing__86 ?_
      refine lv_iload_n hx hb dX12_thing__89 rfl (lv_at hl 3 rfl) ?_
      obtain ⟨h_3, hF⟩ := grd_some hF
      refine va_iald (D := D.1) (f := gIA gT 67) hx hb X.1 X.2.1 42 41 rfl rfl (inB_ok h_3) dX12_thing__90 ?_
      have hq := Option.some.inj hF
      subst hq
      exact rt_i C X dX12_thing__91
    · replace hF := iF c hF
      refine lv_iconst (v := (-1 : Int32)) hx hb dX12_thing__81 (by decide) ?_
      refine lv_goto (tgt := 91) hx hb dX12_thing__82 (by decide) ?_
      have hq := Option.some.inj hF
      subst hq
      exact rt_i C X dX12_thing__91
  · replace hF := iF c0 hF
    by_cases c1 : v2 = (1 : Int32)
    · replace hF := iT c1 hF
      refine lv_tableIn (tgt := 92) (off := 60) hx hb dX12_thing__32 (by rw [c1]; decide) (by rw [c1]; decide) (by rw [c1]; rfl) (by decide) ?_
      refine lv_iload hx hb dX12_thing__92 (lv_at hl 0 rfl) ?_
      refine lv_if_eq (tgt := 101) hx hb dX12_thing__94 (by decide) (fun c => ?_) (fun c => ?_)
      · replace hF := iT c hF
        refine lv_aload_n hx hb dX12_thing__101 rfl (lv_at hl 1 rfl) ?_
        refine va_get (D := D.1) (ci := 12) (v := .ref (aT 68)) (C := RX12) (T := TX12) (N := 114) hx hb hts wi_X12 hown X.1 X.2.1 0 rfl rfl 68 (by decide) (hts _ q7_22) (fun _ h9 => h9) (fl_get (by decide)) dX12_thing__102 ?_
        refine lv_iload_n hx hb dX12_thing__105 rfl (lv_at hl 3 rfl) ?_
        obtain ⟨h_4, hF⟩ := grd_some hF
        refine va_zald (D := D.1) (f := gIA gT 68) hx hb X.1 X.2.1 43 42 rfl rfl (inB_ok h_4) dX12_thing__106 ?_
        refine lv_if_eq (tgt := 114) hx hb dX12_thing__107 (by decide) (fun c => ?_) (fun c => ?_)
        · replace hF := iT c hF
          refine lv_iconst (v := (0 : Int32)) hx hb dX12_thing__114 (by decide) ?_
          have hq := Option.some.inj hF
          subst hq
          exact rt_i C X dX12_thing__115
        · replace hF := iF c hF
          refine lv_iconst (v := (1 : Int32)) hx hb dX12_thing__110 (by decide) ?_
          refine lv_goto (tgt := 115) hx hb dX12_thing__111 (by decide) ?_
          have hq := Option.some.inj hF
          subst hq
          exact rt_i C X dX12_thing__115
      · replace hF := iF c hF
        refine lv_iconst (v := (-1 : Int32)) hx hb dX12_thing__97 (by decide) ?_
        refine lv_goto (tgt := 115) hx hb dX12_thing__98 (by decide) ?_
        have hq := Option.some.inj hF
        subst hq
        exact rt_i C X dX12_thing__115
    · replace hF := iF c1 hF
      by_cases c2 : v2 = (2 : Int32)
      · replace hF := iT c2 hF
        refine lv_tableIn (tgt := 116) (off := 84) hx hb dX12_thing__32 (by rw [c2]; decide) (by rw [c2]; decide) (by rw [c2]; rfl) (by decide) ?_
        refine lv_aload_n hx hb dX12_thing__116 rfl (lv_at hl 1 rfl) ?_
        refine va_get (D := D.1) (ci := 12) (v := .ref (aT 66)) (C := RX12) (T := TX12) (N := 114) hx hb hts wi_X12 hown X.1 X.2.1 0 rfl rfl 66 (by decide) (hts _ q7_20) (fun _ h9 => h9) (fl_get (by decide)) dX12_thing__117 ?_
        refine lv_iload_n hx hb dX12_thing__120 rfl (lv_at hl 3 rfl) ?_
        obtain ⟨h_5, hF⟩ := grd_some hF
        refine va_iald (D := D.1) (f := gIA gT 66) hx hb X.1 X.2.1 41 40 rfl rfl (inB_ok h_5) dX12_thing__121 ?_
        have hq := Option.some.inj hF
        subst hq
        exact rt_i C X dX12_thing__122
      · replace hF := iF c2 hF
        by_cases c3 : v2 = (3 : Int32)
        · replace hF := iT c3 hF
          refine lv_tableIn (tgt := 123) (off := 91) hx hb dX12_thing__32 (by rw [c3]; decide) (by rw [c3]; decide) (by rw [c3]; rfl) (by decide) ?_
          refine lv_aload_n hx hb dX12_thing__123 rfl (lv_at hl 1 rfl) ?_
          refine va_get (D := D.1) (ci := 12) (v := .ref (aT 83)) (C := RX12) (T := TX12) (N := 114) hx hb hts wi_X12 hown X.1 X.2.1 0 rfl rfl 83 (by decide) (hts _ q7_37) (fun _ h9 => h9) (fl_get (by decide)) dX12_thing__124 ?_
          refine lv_iload_n hx hb dX12_thing__127 rfl (lv_at hl 3 rfl) ?_
          obtain ⟨h_6, hF⟩ := grd_some hF
          refine va_iald (D := D.1) (f := gIA gT 83) hx hb X.1 X.2.1 57 56 rfl rfl (inB_ok h_6) dX12_thing__128 ?_
          have hq := Option.some.inj hF
          subst hq
          exact rt_i C X dX12_thing__129
        · replace hF := iF c3 hF
          by_cases c4 : v2 = (4 : Int32)
          · replace hF := iT c4 hF
            refine lv_tableIn (tgt := 130) (off := 98) hx hb dX12_thing__32 (by rw [c4]; decide) (by rw [c4]; decide) (by rw [c4]; rfl) (by decide) ?_
            refine lv_aload_n hx hb dX12_thing__130 rfl (lv_at hl 1 rfl) ?_
            refine va_get (D := D.1) (ci := 12) (v := .ref (aT 84)) (C := RX12) (T := TX12) (N := 114) hx hb hts wi_X12 hown X.1 X.2.1 0 rfl rfl 84 (by decide) (hts _ q7_38) (fun _ h9 => h9) (fl_get (by decide)) dX12_thing__131 ?_
            refine lv_iload_n hx hb dX12_thing__134 rfl (lv_at hl 3 rfl) ?_
            obtain ⟨h_7, hF⟩ := grd_some hF
            refine va_iald (D := D.1) (f := gIA gT 84) hx hb X.1 X.2.1 58 57 rfl rfl (inB_ok h_7) dX12_thing__135 ?_
            have hq := Option.some.inj hF
            subst hq
            exact rt_i C X dX12_thing__136
          · replace hF := iF c4 hF
            by_cases c5 : v2 = (5 : Int32)
            · replace hF := iT c5 hF
              refine lv_tableIn (tgt := 137) (off := 105) hx hb dX12_thing__32 (by rw [c5]; decide) (by rw [c5]; decide) (by rw [c5]; rfl) (by decide) ?_
              refine lv_aload_n hx hb dX12_thing__137 rfl (lv_at hl 1 rfl) ?_
              refine va_get (D := D.1) (ci := 12) (v := .ref (aT 85)) (C := RX12) (T := TX12) (N := 114) hx hb hts wi_X12 hown X.1 X.2.1 0 rfl rfl 85 (by decide) (hts _ q7_39) (fun _ h9 => h9) (fl_get (by decide)) dX12_thing__138 ?_
              refine lv_iload_n hx hb dX12_thing__141 rfl (lv_at hl 3 rfl) ?_
              obtain ⟨h_8, hF⟩ := grd_some hF
              refine va_iald (D := D.1) (f := gIA gT 85) hx hb X.1 X.2.1 59 58 rfl rfl (inB_ok h_8) dX12_thing__142 ?_
              have hq := Option.some.inj hF
              subst hq
              exact rt_i C X dX12_thing__143
            · replace hF := iF c5 hF
              by_cases c6 : v2 = (6 : Int32)
              · replace hF := iT c6 hF
                refine lv_tableIn (tgt := 144) (off := 112) hx hb dX12_thing__32 (by rw [c6]; decide) (by rw [c6]; decide) (by rw [c6]; rfl) (by decide) ?_
                refine lv_iload hx hb dX12_thing__144 (lv_at hl 0 rfl) ?_
                refine lv_if_eq (tgt := 161) hx hb dX12_thing__146 (by decide) (fun c => ?_) (fun c => ?_)
                · replace hF := iT c hF
                  refine lv_iconst (v := (-1 : Int32)) hx hb dX12_thing__161 (by decide) ?_
                  have hq := Option.some.inj hF
                  subst hq
                  exact rt_i C X dX12_thing__162
                · replace hF := iF c hF
                  refine lv_aload_n hx hb dX12_thing__149 rfl (lv_at hl 1 rfl) ?_
                  refine va_get (D := D.1) (ci := 12) (v := .ref (aT 86)) (C := RX12) (T := TX12) (N := 114) hx hb hts wi_X12 hown X.1 X.2.1 0 rfl rfl 86 (by decide) (hts _ q7_40) (fun _ h9 => h9) (fl_get (by decide)) dX12_thing__150 ?_
                  refine lv_iload_n hx hb dX12_thing__153 rfl (lv_at hl 3 rfl) ?_
                  refine lv_bipush (v := (40 : Int32)) hx hb dX12_thing__154 (by decide) ?_
                  refine lv_isub hx hb dX12_thing__156 ?_
                  obtain ⟨h_9, hF⟩ := grd_some hF
                  refine va_iald (D := D.1) (f := gIA gT 86) hx hb X.1 X.2.1 60 59 rfl rfl (inB_ok h_9) dX12_thing__157 ?_
                  refine lv_goto (tgt := 162) hx hb dX12_thing__158 (by decide) ?_
                  have hq := Option.some.inj hF
                  subst hq
                  exact rt_i C X dX12_thing__162
              · replace hF := iF c6 hF
                refine lv_tableOut (tgt := 163) hx hb dX12_thing__32 (tbl_out (0) (6) 7 (by decide) ⟨tne c0 (by decide), ⟨tne c1 (by decide), ⟨tne c2 (by decide), ⟨tne c3 (by decide), ⟨tne c4 (by decide), ⟨tne c5 (by decide), ⟨tne c6 (by decide), trivial⟩⟩⟩⟩⟩⟩⟩) (by decide) ?_
                refine lv_iconst (v := (-1 : Int32)) hx hb dX12_thing__163 (by decide) ?_
                have hq := Option.some.inj hF
                subst hq
                exact rt_i C X dX12_thing__164
set_option maxHeartbeats 4000000 in
set_option maxRecDepth 100000 in
theorem c_X12_thing_ (l : Launch) (D : Dx) (hT : Nat) (aT : Nat → Nat) (yT : Nat → ClassId) (gT : Gs) (x0 : Int32) (x1 : Int32) (q : Int32) (hF : f_X12_thing_ gT x0 x1 = some q) (sz : Nat) : Met l yX12_thing_ (ws_ yX12_thing_ cX12_thing_ 5 (some .int)) R_X12_thing_ (PC D (tX12 yT) [.ref hT, .int x0, .int x1] (wX12 hT aT yT gT) sz) (QI D (va_A (wX12 hT aT yT gT) sz) (wX12 hT aT yT gT) q) 0 0 (va_A (wX12 hT aT yT gT) sz) := by
  refine Met.ofW (cc := cX12_thing_) (maxL := 5) (ret := (some .int)) (by decide) rfl ?_
  intro p e s m args below meth c s₁ B hml hv
  obtain ⟨rfl, hsz, hP, hK, hD, hN⟩ := hv
  subst hsz
  have C : Cx p s m _ meth c cX12_thing_ (some .int) 5 RX12 lw_all := Cx_of B hml
  have X := Hx_start hP hK hD hN
  obtain ⟨hx, hb, hr, -, hown, hts, hlk⟩ := id C
  generalize va_A (wX12 hT aT yT gT) s.heap.size = A at X ⊢
  have hl := lv_entry ([.ref hT, .int x0, .int x1]) (n := 5) (Nat.le_of_ble_eq_true rfl)
  rw [lg_entry_eq]
  generalize (lg_sl ([.ref hT, .int x0, .int x1]) ++ List.replicate (5 - (lg_sl ([.ref hT, .int x0, .int x1])).length) Slot.unset).toArray = ls at hl ⊢
  have hl : lv_has ls 5 [(0, .ref hT), (1, .int x0), (2, .int x1)] := hl
  unfold f_X12_thing_ at hF
  refine lv_aload_n hx hb dX12_thing__0 rfl (lv_at hl 0 rfl) ?_
  refine lv_iload_n hx hb dX12_thing__1 rfl (lv_at hl 1 rfl) ?_
  obtain ⟨q_1, hc_2, hF⟩ := bnd_some hF
  refine cV_i (As := [.int x0]) (rest := []) C X (c_X12_rowOfName l D hT aT yT gT x0 q_1 hc_2 _) (cwV 1 hts (good_V q9_196 q9_198 q0_127 q1_9 q9_199) rfl rfl rfl (by decide +kernel) ⟨Nat.le_of_ble_eq_true rfl, Nat.le_of_ble_eq_true rfl⟩) (va_recv X.1 X.2.1 (ci := 12) (q0 := 0) rfl rfl) X.1 X.2.1 X.2.2.1 (free_all X) hl.1 rfl rfl (Nat.le_of_ble_eq_true rfl) dX12_thing__2 ⟨Nat.le_of_ble_eq_true rfl, Nat.le_of_ble_eq_true rfl⟩ (fun t H1 locs1 ht hB hk hS => ?_)
  have X : Hx D (tX12 yT) A s H1 locs1 (wX12 hT aT yT gT) := Hx_after_all X ht hB hS
  clear hk hS ht hB
  generalize H1 = H at X ⊢
  generalize locs1 = locs at X ⊢
  refine lv_istore_n (lv' := [(3, .int q_1), (0, .ref hT), (1, .int x0), (2, .int x1)]) hx hb dX12_thing__5 rfl hl (by decide) rfl (fun ls hl => ?_)
  refine lv_iload_n hx hb dX12_thing__6 rfl (lv_at hl 0 rfl) ?_
  refine lv_if_lt (tgt := 16) hx hb dX12_thing__7 (by decide) (fun c => ?_) (fun c => ?_)
  · replace hF := iT c hF
    refine lv_iconst (v := (-1 : Int32)) hx hb dX12_thing__16 (by decide) ?_
    have hq := Option.some.inj hF
    subst hq
    exact rt_i C X dX12_thing__17
  · replace hF := iF c hF
    refine lv_iload_n hx hb dX12_thing__10 rfl (lv_at hl 0 rfl) ?_
    refine lv_bipush (v := (52 : Int32)) hx hb dX12_thing__11 (by decide) ?_
    refine lv_icmp_lt (tgt := 18) hx hb dX12_thing__13 (by decide) (fun c => ?_) (fun c => ?_)
    · replace hF := iT c hF
      refine lv_iload_n hx hb dX12_thing__18 rfl (lv_at hl 0 rfl) ?_
      refine lv_bipush (v := (40 : Int32)) hx hb dX12_thing__19 (by decide) ?_
      refine lv_icmp_lt (tgt := 28) hx hb dX12_thing__21 (by decide) (fun c => ?_) (fun c => ?_)
      · replace hF := iT c hF
        refine lv_iconst (v := (0 : Int32)) hx hb dX12_thing__28 (by decide) ?_
        exact (k_X12_thing__29 l D hT aT yT) C X (lv_sub hl [1, 3, 0] rfl) hF
      · replace hF := iF c hF
        refine lv_iconst (v := (1 : Int32)) hx hb dX12_thing__24 (by decide) ?_
        refine lv_goto (tgt := 29) hx hb dX12_thing__25 (by decide) ?_
        exact (k_X12_thing__29 l D hT aT yT) C X (lv_sub hl [1, 3, 0] rfl) hF
    · replace hF := iF c hF
      refine lv_iconst (v := (-1 : Int32)) hx hb dX12_thing__16 (by decide) ?_
      have hq := Option.some.inj hF
      subst hq
      exact rt_i C X dX12_thing__17

/-! ### X12_letter -/
theorem dX12_letter_0 : decode cX12_letter 0 = .ok (.aload_n 0, 1) := by decide +kernel
theorem dX12_letter_1 : decode cX12_letter 1 = .ok (.iload_n 1, 1) := by decide +kernel
theorem dX12_letter_2 : decode cX12_letter 2 = .ok (.invokevirtual 728, 3) := by decide +kernel
theorem dX12_letter_5 : decode cX12_letter 5 = .ok (.istore_n 3, 1) := by decide +kernel
theorem dX12_letter_6 : decode cX12_letter 6 = .ok (.iload_n 3, 1) := by decide +kernel
theorem dX12_letter_7 : decode cX12_letter 7 = .ok (.ifCond .lt 17, 3) := by decide +kernel
theorem dX12_letter_10 : decode cX12_letter 10 = .ok (.iload_n 2, 1) := by decide +kernel
theorem dX12_letter_11 : decode cX12_letter 11 = .ok (.ifCond .lt 13, 3) := by decide +kernel
theorem dX12_letter_14 : decode cX12_letter 14 = .ok (.iload_n 2, 1) := by decide +kernel
theorem dX12_letter_15 : decode cX12_letter 15 = .ok (.aload_n 0, 1) := by decide +kernel
theorem dX12_letter_16 : decode cX12_letter 16 = .ok (.getfield 256, 3) := by decide +kernel
theorem dX12_letter_19 : decode cX12_letter 19 = .ok (.iload_n 3, 1) := by decide +kernel
theorem dX12_letter_20 : decode cX12_letter 20 = .ok (.iaload, 1) := by decide +kernel
theorem dX12_letter_21 : decode cX12_letter 21 = .ok (.if_icmp .lt 5, 3) := by decide +kernel
theorem dX12_letter_24 : decode cX12_letter 24 = .ok (.iconst (-1), 1) := by decide +kernel
theorem dX12_letter_25 : decode cX12_letter 25 = .ok (.ireturn, 1) := by decide +kernel
theorem dX12_letter_26 : decode cX12_letter 26 = .ok (.aload_n 0, 1) := by decide +kernel
theorem dX12_letter_27 : decode cX12_letter 27 = .ok (.getfield 253, 3) := by decide +kernel
theorem dX12_letter_30 : decode cX12_letter 30 = .ok (.bipush 10, 2) := by decide +kernel
theorem dX12_letter_32 : decode cX12_letter 32 = .ok (.iload_n 3, 1) := by decide +kernel
theorem dX12_letter_33 : decode cX12_letter 33 = .ok (.imul, 1) := by decide +kernel
theorem dX12_letter_34 : decode cX12_letter 34 = .ok (.iload_n 2, 1) := by decide +kernel
theorem dX12_letter_35 : decode cX12_letter 35 = .ok (.iadd, 1) := by decide +kernel
theorem dX12_letter_36 : decode cX12_letter 36 = .ok (.baload, 1) := by decide +kernel
theorem dX12_letter_37 : decode cX12_letter 37 = .ok (.ireturn, 1) := by decide +kernel
abbrev R_X12_letter : Room := ({ frames := 1, cells := 0, slots := 0, locals := 21 } : Room)
def f_X12_letter (gT : Gs) (x0 : Int32) (x1 : Int32) : Option (Int32) :=
  bnd (f_X12_rowOfName gT x0) (fun q_1 => if q_1 < 0 then (some (-1 : Int32)) else (if x1 < 0 then (some (-1 : Int32)) else (grd (inB q_1 60) (if x1 < (gIA gT 66 q_1.toNatClampNeg) then (grd (inB (((10 : Int32) * q_1) + x1) 600) (some (gIA gT 65 (((10 : Int32) * q_1) + x1).toNatClampNeg))) else (some (-1 : Int32))))))
set_option maxHeartbeats 4000000 in
set_option maxRecDepth 100000 in
theorem c_X12_letter (l : Launch) (D : Dx) (hT : Nat) (aT : Nat → Nat) (yT : Nat → ClassId) (gT : Gs) (x0 : Int32) (x1 : Int32) (q : Int32) (hF : f_X12_letter gT x0 x1 = some q) (sz : Nat) : Met l yX12_letter (ws_ yX12_letter cX12_letter 4 (some .int)) R_X12_letter (PC D (tX12 yT) [.ref hT, .int x0, .int x1] (wX12 hT aT yT gT) sz) (QI D (va_A (wX12 hT aT yT gT) sz) (wX12 hT aT yT gT) q) 0 0 (va_A (wX12 hT aT yT gT) sz) := by
  refine Met.ofW (cc := cX12_letter) (maxL := 4) (ret := (some .int)) (by decide) rfl ?_
  intro p e s m args below meth c s₁ B hml hv
  obtain ⟨rfl, hsz, hP, hK, hD, hN⟩ := hv
  subst hsz
  have C : Cx p s m _ meth c cX12_letter (some .int) 4 RX12 lw_all := Cx_of B hml
  have X := Hx_start hP hK hD hN
  obtain ⟨hx, hb, hr, -, hown, hts, hlk⟩ := id C
  generalize va_A (wX12 hT aT yT gT) s.heap.size = A at X ⊢
  have hl := lv_entry ([.ref hT, .int x0, .int x1]) (n := 4) (Nat.le_of_ble_eq_true rfl)
  rw [lg_entry_eq]
  generalize (lg_sl ([.ref hT, .int x0, .int x1]) ++ List.replicate (4 - (lg_sl ([.ref hT, .int x0, .int x1])).length) Slot.unset).toArray = ls at hl ⊢
  have hl : lv_has ls 4 [(0, .ref hT), (1, .int x0), (2, .int x1)] := hl
  unfold f_X12_letter at hF
  refine lv_aload_n hx hb dX12_letter_0 rfl (lv_at hl 0 rfl) ?_
  refine lv_iload_n hx hb dX12_letter_1 rfl (lv_at hl 1 rfl) ?_
  obtain ⟨q_1, hc_2, hF⟩ := bnd_some hF
  refine cV_i (As := [.int x0]) (rest := []) C X (c_X12_rowOfName l D hT aT yT gT x0 q_1 hc_2 _) (cwV 1 hts (good_V q9_196 q9_198 q0_127 q1_9 q9_199) rfl rfl rfl (by decide +kernel) ⟨Nat.le_of_ble_eq_true rfl, Nat.le_of_ble_eq_true rfl⟩) (va_recv X.1 X.2.1 (ci := 12) (q0 := 0) rfl rfl) X.1 X.2.1 X.2.2.1 (free_all X) hl.1 rfl rfl (Nat.le_of_ble_eq_true rfl) dX12_letter_2 ⟨Nat.le_of_ble_eq_true rfl, Nat.le_of_ble_eq_true rfl⟩ (fun t H1 locs1 ht hB hk hS => ?_)
  have X : Hx D (tX12 yT) A s H1 locs1 (wX12 hT aT yT gT) := Hx_after_all X ht hB hS
  clear hk hS ht hB
  generalize H1 = H at X ⊢
  generalize locs1 = locs at X ⊢
  refine lv_istore_n (lv' := [(3, .int q_1), (0, .ref hT), (1, .int x0), (2, .int x1)]) hx hb dX12_letter_5 rfl hl (by decide) rfl (fun ls hl => ?_)
  refine lv_iload_n hx hb dX12_letter_6 rfl (lv_at hl 0 rfl) ?_
  refine lv_if_lt (tgt := 24) hx hb dX12_letter_7 (by decide) (fun c => ?_) (fun c => ?_)
  · replace hF := iT c hF
    refine lv_iconst (v := (-1 : Int32)) hx hb dX12_letter_24 (by decide) ?_
    have hq := Option.some.inj hF
    subst hq
    exact rt_i C X dX12_letter_25
  · replace hF := iF c hF
    refine lv_iload_n hx hb dX12_letter_10 rfl (lv_at hl 3 rfl) ?_
    refine lv_if_lt (tgt := 24) hx hb dX12_letter_11 (by decide) (fun c => ?_) (fun c => ?_)
    · replace hF := iT c hF
      refine lv_iconst (v := (-1 : Int32)) hx hb dX12_letter_24 (by decide) ?_
      have hq := Option.some.inj hF
      subst hq
      exact rt_i C X dX12_letter_25
    · replace hF := iF c hF
      refine lv_iload_n hx hb dX12_letter_14 rfl (lv_at hl 3 rfl) ?_
      refine lv_aload_n hx hb dX12_letter_15 rfl (lv_at hl 1 rfl) ?_
      refine va_get (D := D.1) (ci := 12) (v := .ref (aT 66)) (C := RX12) (T := TX12) (N := 114) hx hb hts wi_X12 hown X.1 X.2.1 0 rfl rfl 66 (by decide) (hts _ q7_20) (fun _ h9 => h9) (fl_get (by decide)) dX12_letter_16 ?_
      refine lv_iload_n hx hb dX12_letter_19 rfl (lv_at hl 0 rfl) ?_
      obtain ⟨h_3, hF⟩ := grd_some hF
      refine va_iald (D := D.1) (f := gIA gT 66) hx hb X.1 X.2.1 41 40 rfl rfl (inB_ok h_3) dX12_letter_20 ?_
      refine lv_icmp_lt (tgt := 26) hx hb dX12_letter_21 (by decide) (fun c => ?_) (fun c => ?_)
      · replace hF := iT c hF
        refine lv_aload_n hx hb dX12_letter_26 rfl (lv_at hl 1 rfl) ?_
        refine va_get (D := D.1) (ci := 12) (v := .ref (aT 65)) (C := RX12) (T := TX12) (N := 114) hx hb hts wi_X12 hown X.1 X.2.1 0 rfl rfl 65 (by decide) (hts _ q7_19) (fun _ h9 => h9) (fl_get (by decide)) dX12_letter_27 ?_
        refine lv_bipush (v := (10 : Int32)) hx hb dX12_letter_30 (by decide) ?_
        refine lv_iload_n hx hb dX12_letter_32 rfl (lv_at hl 0 rfl) ?_
        refine lv_imul hx hb dX12_letter_33 ?_
        refine lv_iload_n hx hb dX12_letter_34 rfl (lv_at hl 3 rfl) ?_
        refine lv_iadd hx hb dX12_letter_35 ?_
        obtain ⟨h_4, hF⟩ := grd_some hF
        refine va_bald (D := D.1) (f := gIA gT 65) hx hb X.1 X.2.1 40 39 rfl rfl (inB_ok h_4) dX12_letter_36 ?_
        have hq := Option.some.inj hF
        subst hq
        exact rt_i C X dX12_letter_37
      · replace hF := iF c hF
        refine lv_iconst (v := (-1 : Int32)) hx hb dX12_letter_24 (by decide) ?_
        have hq := Option.some.inj hF
        subst hq
        exact rt_i C X dX12_letter_25

/-! ### X12_value -/
theorem dX12_value_0 : decode cX12_value 0 = .ok (.iload_n 1, 1) := by decide +kernel
theorem dX12_value_1 : decode cX12_value 1 = .ok (.ifCond .lt 21, 3) := by decide +kernel
theorem dX12_value_4 : decode cX12_value 4 = .ok (.iload_n 1, 1) := by decide +kernel
theorem dX12_value_5 : decode cX12_value 5 = .ok (.aload_n 0, 1) := by decide +kernel
theorem dX12_value_6 : decode cX12_value 6 = .ok (.getfield 238, 3) := by decide +kernel
theorem dX12_value_9 : decode cX12_value 9 = .ok (.if_icmp .ge 13, 3) := by decide +kernel
theorem dX12_value_12 : decode cX12_value 12 = .ok (.iload_n 2, 1) := by decide +kernel
theorem dX12_value_13 : decode cX12_value 13 = .ok (.ifCond .lt 9, 3) := by decide +kernel
theorem dX12_value_16 : decode cX12_value 16 = .ok (.iload_n 2, 1) := by decide +kernel
theorem dX12_value_17 : decode cX12_value 17 = .ok (.bipush 31, 2) := by decide +kernel
theorem dX12_value_19 : decode cX12_value 19 = .ok (.if_icmp .le 5, 3) := by decide +kernel
theorem dX12_value_22 : decode cX12_value 22 = .ok (.lconst 0, 1) := by decide +kernel
theorem dX12_value_23 : decode cX12_value 23 = .ok (.lreturn, 1) := by decide +kernel
theorem dX12_value_24 : decode cX12_value 24 = .ok (.iload_n 2, 1) := by decide +kernel
theorem dX12_value_25 : decode cX12_value 25 = .ok (.ifCond .ne 10, 3) := by decide +kernel
theorem dX12_value_28 : decode cX12_value 28 = .ok (.aload_n 0, 1) := by decide +kernel
theorem dX12_value_29 : decode cX12_value 29 = .ok (.getfield 298, 3) := by decide +kernel
theorem dX12_value_32 : decode cX12_value 32 = .ok (.iload_n 1, 1) := by decide +kernel
theorem dX12_value_33 : decode cX12_value 33 = .ok (.laload, 1) := by decide +kernel
theorem dX12_value_34 : decode cX12_value 34 = .ok (.lreturn, 1) := by decide +kernel
theorem dX12_value_35 : decode cX12_value 35 = .ok (.iload_n 2, 1) := by decide +kernel
theorem dX12_value_36 : decode cX12_value 36 = .ok (.i2l, 1) := by decide +kernel
theorem dX12_value_37 : decode cX12_value 37 = .ok (.aload_n 0, 1) := by decide +kernel
theorem dX12_value_38 : decode cX12_value 38 = .ok (.getfield 319, 3) := by decide +kernel
theorem dX12_value_41 : decode cX12_value 41 = .ok (.lcmp, 1) := by decide +kernel
theorem dX12_value_42 : decode cX12_value 42 = .ok (.ifCond .le 5, 3) := by decide +kernel
theorem dX12_value_45 : decode cX12_value 45 = .ok (.lconst 0, 1) := by decide +kernel
theorem dX12_value_46 : decode cX12_value 46 = .ok (.lreturn, 1) := by decide +kernel
theorem dX12_value_47 : decode cX12_value 47 = .ok (.aload_n 0, 1) := by decide +kernel
theorem dX12_value_48 : decode cX12_value 48 = .ok (.getfield 304, 3) := by decide +kernel
theorem dX12_value_51 : decode cX12_value 51 = .ok (.bipush 32, 2) := by decide +kernel
theorem dX12_value_53 : decode cX12_value 53 = .ok (.iload_n 1, 1) := by decide +kernel
theorem dX12_value_54 : decode cX12_value 54 = .ok (.imul, 1) := by decide +kernel
theorem dX12_value_55 : decode cX12_value 55 = .ok (.aload_n 0, 1) := by decide +kernel
theorem dX12_value_56 : decode cX12_value 56 = .ok (.getfield 319, 3) := by decide +kernel
theorem dX12_value_59 : decode cX12_value 59 = .ok (.iload_n 2, 1) := by decide +kernel
theorem dX12_value_60 : decode cX12_value 60 = .ok (.i2l, 1) := by decide +kernel
theorem dX12_value_61 : decode cX12_value 61 = .ok (.lsub, 1) := by decide +kernel
theorem dX12_value_62 : decode cX12_value 62 = .ok (.lconst 1, 1) := by decide +kernel
theorem dX12_value_63 : decode cX12_value 63 = .ok (.ladd, 1) := by decide +kernel
theorem dX12_value_64 : decode cX12_value 64 = .ok (.ldc2_w 724, 3) := by decide +kernel
theorem dX12_value_67 : decode cX12_value 67 = .ok (.land, 1) := by decide +kernel
theorem dX12_value_68 : decode cX12_value 68 = .ok (.l2i, 1) := by decide +kernel
theorem dX12_value_69 : decode cX12_value 69 = .ok (.iadd, 1) := by decide +kernel
theorem dX12_value_70 : decode cX12_value 70 = .ok (.laload, 1) := by decide +kernel
theorem dX12_value_71 : decode cX12_value 71 = .ok (.lreturn, 1) := by decide +kernel
abbrev R_X12_value : Room := ({ frames := 0, cells := 0, slots := 0, locals := 0 } : Room)
def f_X12_value (gT : Gs) (x0 : Int32) (x1 : Int32) : Option (Int64) :=
  if x0 < 0 then (some (0 : Int64)) else (if (gI gT 60) ≤ x0 then (some (0 : Int64)) else (if x1 < 0 then (some (0 : Int64)) else (if x1 ≤ (31 : Int32) then (if x1 = 0 then (grd (inB x0 40) (some (gLA gT 80 x0.toNatClampNeg))) else (if x1.toInt64 ≤ (gL gT 87) then (grd (inB (((32 : Int32) * x0) + (((((gL gT 87) - x1.toInt64) + (1 : Int64)) &&& (31 : Int64)).toInt32)) 1280) (some (gLA gT 82 (((32 : Int32) * x0) + (((((gL gT 87) - x1.toInt64) + (1 : Int64)) &&& (31 : Int64)).toInt32)).toNatClampNeg))) else (some (0 : Int64)))) else (some (0 : Int64)))))
set_option maxHeartbeats 4000000 in
set_option maxRecDepth 100000 in
theorem c_X12_value (l : Launch) (D : Dx) (hT : Nat) (aT : Nat → Nat) (yT : Nat → ClassId) (gT : Gs) (x0 : Int32) (x1 : Int32) (q : Int64) (hF : f_X12_value gT x0 x1 = some q) (sz : Nat) : Met l yX12_value (ws_ yX12_value cX12_value 3 (some .long)) R_X12_value (PC D (tX12 yT) [.ref hT, .int x0, .int x1] (wX12 hT aT yT gT) sz) (QL D (va_A (wX12 hT aT yT gT) sz) (wX12 hT aT yT gT) q) 0 0 (va_A (wX12 hT aT yT gT) sz) := by
  refine Met.ofW (cc := cX12_value) (maxL := 3) (ret := (some .long)) (by decide) rfl ?_
  intro p e s m args below meth c s₁ B hml hv
  obtain ⟨rfl, hsz, hP, hK, hD, hN⟩ := hv
  subst hsz
  have C : Cx p s m _ meth c cX12_value (some .long) 3 RX12 lw_all := Cx_of B hml
  have X := Hx_start hP hK hD hN
  obtain ⟨hx, hb, hr, -, hown, hts, hlk⟩ := id C
  generalize va_A (wX12 hT aT yT gT) s.heap.size = A at X ⊢
  have hl := lv_entry ([.ref hT, .int x0, .int x1]) (n := 3) (Nat.le_of_ble_eq_true rfl)
  rw [lg_entry_eq]
  generalize (lg_sl ([.ref hT, .int x0, .int x1]) ++ List.replicate (3 - (lg_sl ([.ref hT, .int x0, .int x1])).length) Slot.unset).toArray = ls at hl ⊢
  have hl : lv_has ls 3 [(0, .ref hT), (1, .int x0), (2, .int x1)] := hl
  unfold f_X12_value at hF
  refine lv_iload_n hx hb dX12_value_0 rfl (lv_at hl 1 rfl) ?_
  refine lv_if_lt (tgt := 22) hx hb dX12_value_1 (by decide) (fun c => ?_) (fun c => ?_)
  · replace hF := iT c hF
    refine lv_lconst (v := (0 : Int64)) hx hb dX12_value_22 (by decide) ?_
    have hq := Option.some.inj hF
    subst hq
    exact rt_l C X dX12_value_23
  · replace hF := iF c hF
    refine lv_iload_n hx hb dX12_value_4 rfl (lv_at hl 1 rfl) ?_
    refine lv_aload_n hx hb dX12_value_5 rfl (lv_at hl 0 rfl) ?_
    refine va_get (D := D.1) (ci := 12) (v := .int (gI gT 60)) (C := RX12) (T := TX12) (N := 114) hx hb hts wi_X12 hown X.1 X.2.1 0 rfl rfl 60 (by decide) (hts _ q7_14) (fun _ h9 => h9) (fl_get (by decide)) dX12_value_6 ?_
    refine lv_icmp_ge (tgt := 22) hx hb dX12_value_9 (by decide) (fun c => ?_) (fun c => ?_)
    · replace hF := iT c hF
      refine lv_lconst (v := (0 : Int64)) hx hb dX12_value_22 (by decide) ?_
      have hq := Option.some.inj hF
      subst hq
      exact rt_l C X dX12_value_23
    · replace hF := iF c hF
      refine lv_iload_n hx hb dX12_value_12 rfl (lv_at hl 2 rfl) ?_
      refine lv_if_lt (tgt := 22) hx hb dX12_value_13 (by decide) (fun c => ?_) (fun c => ?_)
      · replace hF := iT c hF
        refine lv_lconst (v := (0 : Int64)) hx hb dX12_value_22 (by decide) ?_
        have hq := Option.some.inj hF
        subst hq
        exact rt_l C X dX12_value_23
      · replace hF := iF c hF
        refine lv_iload_n hx hb dX12_value_16 rfl (lv_at hl 2 rfl) ?_
        refine lv_bipush (v := (31 : Int32)) hx hb dX12_value_17 (by decide) ?_
        refine lv_icmp_le (tgt := 24) hx hb dX12_value_19 (by decide) (fun c => ?_) (fun c => ?_)
        · replace hF := iT c hF
          refine lv_iload_n hx hb dX12_value_24 rfl (lv_at hl 2 rfl) ?_
          refine lv_if_ne (tgt := 35) hx hb dX12_value_25 (by decide) (fun c => ?_) (fun c => ?_)
          · replace hF := iF c hF
            refine lv_iload_n hx hb dX12_value_35 rfl (lv_at hl 2 rfl) ?_
            refine lv_i2l hx hb dX12_value_36 rfl ?_
            refine lv_aload_n hx hb dX12_value_37 rfl (lv_at hl 0 rfl) ?_
            refine va_get (D := D.1) (ci := 12) (v := .long (gL gT 87)) (C := RX12) (T := TX12) (N := 114) hx hb hts wi_X12 hown X.1 X.2.1 0 rfl rfl 87 (by decide) (hts _ q7_41) (fun _ h9 => h9) (fl_get (by decide)) dX12_value_38 ?_
            refine W.lcmp hx hb dX12_value_41 ?_
            refine lv_if_le (tgt := 47) hx hb dX12_value_42 (by decide) (fun c => ?_) (fun c => ?_)
            · have c := (lg_cmp_le _ _).mp c
              replace hF := iT c hF
              refine lv_aload_n hx hb dX12_value_47 rfl (lv_at hl 0 rfl) ?_
              refine va_get (D := D.1) (ci := 12) (v := .ref (aT 82)) (C := RX12) (T := TX12) (N := 114) hx hb hts wi_X12 hown X.1 X.2.1 0 rfl rfl 82 (by decide) (hts _ q7_36) (fun _ h9 => h9) (fl_get (by decide)) dX12_value_48 ?_
              refine lv_bipush (v := (32 : Int32)) hx hb dX12_value_51 (by decide) ?_
              refine lv_iload_n hx hb dX12_value_53 rfl (lv_at hl 1 rfl) ?_
              refine lv_imul hx hb dX12_value_54 ?_
              refine lv_aload_n hx hb dX12_value_55 rfl (lv_at hl 0 rfl) ?_
              refine va_get (D := D.1) (ci := 12) (v := .long (gL gT 87)) (C := RX12) (T := TX12) (N := 114) hx hb hts wi_X12 hown X.1 X.2.1 0 rfl rfl 87 (by decide) (hts _ q7_41) (fun _ h9 => h9) (fl_get (by decide)) dX12_value_56 ?_
              refine lv_iload_n hx hb dX12_value_59 rfl (lv_at hl 2 rfl) ?_
              refine lv_i2l hx hb dX12_value_60 rfl ?_
              refine lv_lsub hx hb dX12_value_61 ?_
              refine lv_lconst (v := (1 : Int64)) hx hb dX12_value_62 (by decide) ?_
              refine lv_ladd hx hb dX12_value_63 ?_
              refine lv_ldc2 hx hb hown (hts _ q9_171) dX12_value_64 ?_
              refine lv_land hx hb dX12_value_67 ?_
              refine lv_l2i hx hb dX12_value_68 rfl ?_
              refine lv_iadd hx hb dX12_value_69 ?_
              obtain ⟨h_1, hF⟩ := grd_some hF
              refine va_lald (D := D.1) (f := gLA gT 82) hx hb X.1 X.2.1 56 55 rfl rfl (inB_ok h_1) dX12_value_70 ?_
              have hq := Option.some.inj hF
              subst hq
              exact rt_l C X dX12_value_71
            · have c := fun h => c ((lg_cmp_le _ _).mpr h)
              replace hF := iF c hF
              refine lv_lconst (v := (0 : Int64)) hx hb dX12_value_45 (by decide) ?_
              have hq := Option.some.inj hF
              subst hq
              exact rt_l C X dX12_value_46
          · replace hF := iT c hF
            refine lv_aload_n hx hb dX12_value_28 rfl (lv_at hl 0 rfl) ?_
            refine va_get (D := D.1) (ci := 12) (v := .ref (aT 80)) (C := RX12) (T := TX12) (N := 114) hx hb hts wi_X12 hown X.1 X.2.1 0 rfl rfl 80 (by decide) (hts _ q7_34) (fun _ h9 => h9) (fl_get (by decide)) dX12_value_29 ?_
            refine lv_iload_n hx hb dX12_value_32 rfl (lv_at hl 1 rfl) ?_
            obtain ⟨h_2, hF⟩ := grd_some hF
            refine va_lald (D := D.1) (f := gLA gT 80) hx hb X.1 X.2.1 54 53 rfl rfl (inB_ok h_2) dX12_value_33 ?_
            have hq := Option.some.inj hF
            subst hq
            exact rt_l C X dX12_value_34
        · replace hF := iF c hF
          refine lv_lconst (v := (0 : Int64)) hx hb dX12_value_22 (by decide) ?_
          have hq := Option.some.inj hF
          subst hq
          exact rt_l C X dX12_value_23

/-! ### X12_set -/
theorem dX12_set_0 : decode cX12_set 0 = .ok (.iload_n 1, 1) := by decide +kernel
theorem dX12_set_1 : decode cX12_set 1 = .ok (.ifCond .lt 20, 3) := by decide +kernel
theorem dX12_set_4 : decode cX12_set 4 = .ok (.iload_n 1, 1) := by decide +kernel
theorem dX12_set_5 : decode cX12_set 5 = .ok (.aload_n 0, 1) := by decide +kernel
theorem dX12_set_6 : decode cX12_set 6 = .ok (.getfield 238, 3) := by decide +kernel
theorem dX12_set_9 : decode cX12_set 9 = .ok (.if_icmp .ge 12, 3) := by decide +kernel
theorem dX12_set_12 : decode cX12_set 12 = .ok (.aload_n 0, 1) := by decide +kernel
theorem dX12_set_13 : decode cX12_set 13 = .ok (.getfield 262, 3) := by decide +kernel
theorem dX12_set_16 : decode cX12_set 16 = .ok (.iload_n 1, 1) := by decide +kernel
theorem dX12_set_17 : decode cX12_set 17 = .ok (.baload, 1) := by decide +kernel
theorem dX12_set_18 : decode cX12_set 18 = .ok (.ifCond .ne 5, 3) := by decide +kernel
theorem dX12_set_21 : decode cX12_set 21 = .ok (.iconst 0, 1) := by decide +kernel
theorem dX12_set_22 : decode cX12_set 22 = .ok (.ireturn, 1) := by decide +kernel
theorem dX12_set_23 : decode cX12_set 23 = .ok (.aload_n 0, 1) := by decide +kernel
theorem dX12_set_24 : decode cX12_set 24 = .ok (.getfield 259, 3) := by decide +kernel
theorem dX12_set_27 : decode cX12_set 27 = .ok (.iload_n 1, 1) := by decide +kernel
theorem dX12_set_28 : decode cX12_set 28 = .ok (.iaload, 1) := by decide +kernel
theorem dX12_set_29 : decode cX12_set 29 = .ok (.istore 4, 2) := by decide +kernel
theorem dX12_set_31 : decode cX12_set 31 = .ok (.lload_n 2, 1) := by decide +kernel
theorem dX12_set_32 : decode cX12_set 32 = .ok (.lstore 5, 2) := by decide +kernel
theorem dX12_set_34 : decode cX12_set 34 = .ok (.iload 4, 2) := by decide +kernel
theorem dX12_set_36 : decode cX12_set 36 = .ok (.ifCond .ne 11, 3) := by decide +kernel
theorem dX12_set_39 : decode cX12_set 39 = .ok (.lload_n 2, 1) := by decide +kernel
theorem dX12_set_40 : decode cX12_set 40 = .ok (.lconst 1, 1) := by decide +kernel
theorem dX12_set_41 : decode cX12_set 41 = .ok (.land, 1) := by decide +kernel
theorem dX12_set_42 : decode cX12_set 42 = .ok (.lstore 5, 2) := by decide +kernel
theorem dX12_set_44 : decode cX12_set 44 = .ok (.goto 34, 3) := by decide +kernel
theorem dX12_set_47 : decode cX12_set 47 = .ok (.iload 4, 2) := by decide +kernel
theorem dX12_set_49 : decode cX12_set 49 = .ok (.iconst 5, 1) := by decide +kernel
theorem dX12_set_50 : decode cX12_set 50 = .ok (.if_icmp .ge 14, 3) := by decide +kernel
theorem dX12_set_53 : decode cX12_set 53 = .ok (.lload_n 2, 1) := by decide +kernel
theorem dX12_set_54 : decode cX12_set 54 = .ok (.iload 4, 2) := by decide +kernel
theorem dX12_set_56 : decode cX12_set 56 = .ok (.invokestatic 470, 3) := by decide +kernel
theorem dX12_set_59 : decode cX12_set 59 = .ok (.lstore 5, 2) := by decide +kernel
theorem dX12_set_61 : decode cX12_set 61 = .ok (.goto 17, 3) := by decide +kernel
theorem dX12_set_64 : decode cX12_set 64 = .ok (.iload 4, 2) := by decide +kernel
theorem dX12_set_66 : decode cX12_set 66 = .ok (.bipush 6, 2) := by decide +kernel
theorem dX12_set_68 : decode cX12_set 68 = .ok (.if_icmp .ne 10, 3) := by decide +kernel
theorem dX12_set_71 : decode cX12_set 71 = .ok (.lload_n 2, 1) := by decide +kernel
theorem dX12_set_72 : decode cX12_set 72 = .ok (.iconst 4, 1) := by decide +kernel
theorem dX12_set_73 : decode cX12_set 73 = .ok (.invokestatic 470, 3) := by decide +kernel
theorem dX12_set_76 : decode cX12_set 76 = .ok (.lstore 5, 2) := by decide +kernel
theorem dX12_set_78 : decode cX12_set 78 = .ok (.iload 4, 2) := by decide +kernel
theorem dX12_set_80 : decode cX12_set 80 = .ok (.bipush 6, 2) := by decide +kernel
theorem dX12_set_82 : decode cX12_set 82 = .ok (.if_icmp .ne 19, 3) := by decide +kernel
theorem dX12_set_85 : decode cX12_set 85 = .ok (.lload 5, 2) := by decide +kernel
theorem dX12_set_87 : decode cX12_set 87 = .ok (.bipush 23, 2) := by decide +kernel
theorem dX12_set_89 : decode cX12_set 89 = .ok (.lshr, 1) := by decide +kernel
theorem dX12_set_90 : decode cX12_set 90 = .ok (.ldc2_w 442, 3) := by decide +kernel
theorem dX12_set_93 : decode cX12_set 93 = .ok (.land, 1) := by decide +kernel
theorem dX12_set_94 : decode cX12_set 94 = .ok (.ldc2_w 442, 3) := by decide +kernel
theorem dX12_set_97 : decode cX12_set 97 = .ok (.lcmp, 1) := by decide +kernel
theorem dX12_set_98 : decode cX12_set 98 = .ok (.ifCond .eq 18, 3) := by decide +kernel
theorem dX12_set_101 : decode cX12_set 101 = .ok (.iload 4, 2) := by decide +kernel
theorem dX12_set_103 : decode cX12_set 103 = .ok (.bipush 7, 2) := by decide +kernel
theorem dX12_set_105 : decode cX12_set 105 = .ok (.if_icmp .ne 13, 3) := by decide +kernel
theorem dX12_set_108 : decode cX12_set 108 = .ok (.lload 5, 2) := by decide +kernel
theorem dX12_set_110 : decode cX12_set 110 = .ok (.invokestatic 501, 3) := by decide +kernel
theorem dX12_set_113 : decode cX12_set 113 = .ok (.ifCond .ne 5, 3) := by decide +kernel
theorem dX12_set_116 : decode cX12_set 116 = .ok (.iconst 0, 1) := by decide +kernel
theorem dX12_set_117 : decode cX12_set 117 = .ok (.ireturn, 1) := by decide +kernel
theorem dX12_set_118 : decode cX12_set 118 = .ok (.aload_n 0, 1) := by decide +kernel
theorem dX12_set_119 : decode cX12_set 119 = .ok (.getfield 298, 3) := by decide +kernel
theorem dX12_set_122 : decode cX12_set 122 = .ok (.iload_n 1, 1) := by decide +kernel
theorem dX12_set_123 : decode cX12_set 123 = .ok (.lload 5, 2) := by decide +kernel
theorem dX12_set_125 : decode cX12_set 125 = .ok (.lastore, 1) := by decide +kernel
theorem dX12_set_126 : decode cX12_set 126 = .ok (.aload_n 0, 1) := by decide +kernel
theorem dX12_set_127 : decode cX12_set 127 = .ok (.getfield 301, 3) := by decide +kernel
theorem dX12_set_130 : decode cX12_set 130 = .ok (.iload_n 1, 1) := by decide +kernel
theorem dX12_set_131 : decode cX12_set 131 = .ok (.lload 5, 2) := by decide +kernel
theorem dX12_set_133 : decode cX12_set 133 = .ok (.lastore, 1) := by decide +kernel
theorem dX12_set_134 : decode cX12_set 134 = .ok (.iconst 1, 1) := by decide +kernel
theorem dX12_set_135 : decode cX12_set 135 = .ok (.ireturn, 1) := by decide +kernel
abbrev R_X12_set : Room := ({ frames := 1, cells := 0, slots := 0, locals := 22 } : Room)
def b_X12_set_118 (gT : Gs) (v1 : Int32) (v5 : Int64) : Option (Int32 × Gs) :=
  grd (inB v1 40) (grd (inB v1 40) (some ((1 : Int32), (sLA (sLA gT 80 (vp_updL (gLA gT 80) v1.toNatClampNeg v5)) 81 (vp_updL (gLA gT 81) v1.toNatClampNeg v5)))))
def b_X12_set_101 (gT : Gs) (v1 : Int32) (v4 : Int32) (v5 : Int64) : Option (Int32 × Gs) :=
  if v4 = (7 : Int32) then (bnd (f_X12_isFinite v5) (fun q_5 => if q_5 = 0 then (some ((0 : Int32), gT)) else (b_X12_set_118 gT v1 v5))) else (b_X12_set_118 gT v1 v5)
def b_X12_set_78 (gT : Gs) (v1 : Int32) (v4 : Int32) (v5 : Int64) : Option (Int32 × Gs) :=
  if v4 = (6 : Int32) then (if ((v5 >>> ((23 : Int32).toInt64 &&& 63)) &&& (255 : Int64)) = (255 : Int64) then (some ((0 : Int32), gT)) else (b_X12_set_101 gT v1 v4 v5)) else (b_X12_set_101 gT v1 v4 v5)
def f_X12_set (gT : Gs) (x0 : Int32) (x1 : Int64) : Option (Int32 × Gs) :=
  if x0 < 0 then (some ((0 : Int32), gT)) else (if (gI gT 60) ≤ x0 then (some ((0 : Int32), gT)) else (grd (inB x0 40) (if (gIA gT 68 x0.toNatClampNeg) = 0 then (some ((0 : Int32), gT)) else (grd (inB x0 40) (if (gIA gT 67 x0.toNatClampNeg) = 0 then (b_X12_set_78 gT x0 (gIA gT 67 x0.toNatClampNeg) (x1 &&& (1 : Int64))) else (if (5 : Int32) ≤ (gIA gT 67 x0.toNatClampNeg) then (if (gIA gT 67 x0.toNatClampNeg) = (6 : Int32) then (bnd (f_X12_narrowed x1 (4 : Int32)) (fun q_7 => b_X12_set_78 gT x0 (gIA gT 67 x0.toNatClampNeg) q_7)) else (b_X12_set_78 gT x0 (gIA gT 67 x0.toNatClampNeg) x1)) else (bnd (f_X12_narrowed x1 (gIA gT 67 x0.toNatClampNeg)) (fun q_9 => b_X12_set_78 gT x0 (gIA gT 67 x0.toNatClampNeg) q_9))))))))
def S_X12_set_118 (l : Launch) (D : Dx) (hT : Nat) (aT : Nat → Nat) (yT : Nat → ClassId) (fn : Gs → Int32 → Int64 → Option (Int32 × Gs)) : Prop :=
  ∀ {p : Program} {e : Env} {s : State} {m : MethodId} {args : Array Value} {below : List Frame} {meth : Method} {c : Code} {H : Heap} {locs : List Loc} {A : Nat → Prop} {ls : Array Slot} {gT : Gs} {v1 : Int32} {v5 : Int64} {q : Int32 × Gs}, Cx p s m args meth c cX12_set (some .boolean) 7 RX12 lw_all → Hx D (tX12 yT) A s H locs (wX12 hT aT yT gT) → lv_has ls 7 [(0, .ref hT), (1, .int v1), (5, .long v5)] → fn gT v1 v5 = some q → W p l e R_X12_set s m args below meth c H locs 0 0 (MQ below (QI D A (wX12 hT aT yT q.2) q.1) args s 0 0 A) (F0 m 118 ls [])
def S_X12_set_101 (l : Launch) (D : Dx) (hT : Nat) (aT : Nat → Nat) (yT : Nat → ClassId) (fn : Gs → Int32 → Int32 → Int64 → Option (Int32 × Gs)) : Prop :=
  ∀ {p : Program} {e : Env} {s : State} {m : MethodId} {args : Array Value} {below : List Frame} {meth : Method} {c : Code} {H : Heap} {locs : List Loc} {A : Nat → Prop} {ls : Array Slot} {gT : Gs} {v1 : Int32} {v4 : Int32} {v5 : Int64} {q : Int32 × Gs}, Cx p s m args meth c cX12_set (some .boolean) 7 RX12 lw_all → Hx D (tX12 yT) A s H locs (wX12 hT aT yT gT) → lv_has ls 7 [(0, .ref hT), (1, .int v1), (4, .int v4), (5, .long v5)] → fn gT v1 v4 v5 = some q → W p l e R_X12_set s m args below meth c H locs 0 0 (MQ below (QI D A (wX12 hT aT yT q.2) q.1) args s 0 0 A) (F0 m 101 ls [])
def S_X12_set_78 (l : Launch) (D : Dx) (hT : Nat) (aT : Nat → Nat) (yT : Nat → ClassId) (fn : Gs → Int32 → Int32 → Int64 → Option (Int32 × Gs)) : Prop :=
  ∀ {p : Program} {e : Env} {s : State} {m : MethodId} {args : Array Value} {below : List Frame} {meth : Method} {c : Code} {H : Heap} {locs : List Loc} {A : Nat → Prop} {ls : Array Slot} {gT : Gs} {v1 : Int32} {v4 : Int32} {v5 : Int64} {q : Int32 × Gs}, Cx p s m args meth c cX12_set (some .boolean) 7 RX12 lw_all → Hx D (tX12 yT) A s H locs (wX12 hT aT yT gT) → lv_has ls 7 [(0, .ref hT), (1, .int v1), (4, .int v4), (5, .long v5)] → fn gT v1 v4 v5 = some q → W p l e R_X12_set s m args below meth c H locs 0 0 (MQ below (QI D A (wX12 hT aT yT q.2) q.1) args s 0 0 A) (F0 m 78 ls [])
set_option maxHeartbeats 4000000 in
set_option maxRecDepth 100000 in
theorem k_X12_set_118 (l : Launch) (D : Dx) (hT : Nat) (aT : Nat → Nat) (yT : Nat → ClassId) : S_X12_set_118 l D hT aT yT (b_X12_set_118) := by
  intro p e s m args below meth c H locs A ls gT v1 v5 q C X hl hF
  obtain ⟨hx, hb, hr, hml, hown, hts, hlk⟩ := id C
  unfold b_X12_set_118 at hF
  refine lv_aload_n hx hb dX12_set_118 rfl (lv_at hl 0 rfl) ?_
  refine va_get (D := D.1) (ci := 12) (v := .ref (aT 80)) (C := RX12) (T := TX12) (N := 114) hx hb hts wi_X12 hown X.1 X.2.1 0 rfl rfl 80 (by decide) (hts _ q7_34) (fun _ h9 => h9) (fl_get (by decide)) dX12_set_119 ?_
  refine lv_iload_n hx hb dX12_set_122 rfl (lv_at hl 1 rfl) ?_
  refine lv_lload hx hb dX12_set_123 (lv_at hl 2 rfl) ?_
  obtain ⟨h_3, hF⟩ := grd_some hF
  refine va_last (D := D.1) (f := gLA gT 80) hx hb X.1 X.2.1 X.2.2.1 X.2.2.2.1 54 53 rfl rfl (inB_ok h_3) dX12_set_125 (fun H locs hP hD hS => ?_)
  have X : Hx D (tX12 yT) A s H locs (wX12 hT aT yT (sLA gT 80 (vp_updL (gLA gT 80) v1.toNatClampNeg v5))) := Hx_set X (wG_sLA (i := 53) (k := 80) ndX12 rfl rfl) hP hD hS
  refine lv_aload_n hx hb dX12_set_126 rfl (lv_at hl 0 rfl) ?_
  refine va_get (D := D.1) (ci := 12) (v := .ref (aT 81)) (C := RX12) (T := TX12) (N := 114) hx hb hts wi_X12 hown X.1 X.2.1 0 rfl rfl 81 (by decide) (hts _ q7_35) (fun _ h9 => h9) (fl_get (by decide)) dX12_set_127 ?_
  refine lv_iload_n hx hb dX12_set_130 rfl (lv_at hl 1 rfl) ?_
  refine lv_lload hx hb dX12_set_131 (lv_at hl 2 rfl) ?_
  obtain ⟨h_4, hF⟩ := grd_some hF
  refine va_last (D := D.1) (f := gLA gT 81) hx hb X.1 X.2.1 X.2.2.1 X.2.2.2.1 55 54 rfl rfl (inB_ok h_4) dX12_set_133 (fun H locs hP hD hS => ?_)
  have X : Hx D (tX12 yT) A s H locs (wX12 hT aT yT (sLA (sLA gT 80 (vp_updL (gLA gT 80) v1.toNatClampNeg v5)) 81 (vp_updL (gLA gT 81) v1.toNatClampNeg v5))) := Hx_set X (wG_sLA (i := 54) (k := 81) ndX12 rfl rfl) hP hD hS
  refine lv_iconst (v := (1 : Int32)) hx hb dX12_set_134 (by decide) ?_
  have hq := Option.some.inj hF
  subst hq
  exact rt_z (v := (1 : Int32)) C X (by decide) dX12_set_135
set_option maxHeartbeats 4000000 in
set_option maxRecDepth 100000 in
theorem k_X12_set_101 (l : Launch) (D : Dx) (hT : Nat) (aT : Nat → Nat) (yT : Nat → ClassId) : S_X12_set_101 l D hT aT yT (b_X12_set_101) := by
  intro p e s m args below meth c H locs A ls gT v1 v4 v5 q C X hl hF
  obtain ⟨hx, hb, hr, hml, hown, hts, hlk⟩ := id C
  unfold b_X12_set_101 at hF
  refine lv_iload hx hb dX12_set_101 (lv_at hl 2 rfl) ?_
  refine lv_bipush (v := (7 : Int32)) hx hb dX12_set_103 (by decide) ?_
  refine lv_icmp_ne (tgt := 118) hx hb dX12_set_105 (by decide) (fun c => ?_) (fun c => ?_)
  · replace hF := iF c hF
    exact (k_X12_set_118 l D hT aT yT) C X (lv_sub hl [0, 1, 3] rfl) hF
  · replace hF := iT c hF
    refine lv_lload hx hb dX12_set_108 (lv_at hl 3 rfl) ?_
    obtain ⟨q_5, hc_6, hF⟩ := bnd_some hF
    refine cS_i (As := [.long v5]) (rest := []) C X (c_X12_isFinite l D  v5 q_5 hc_6 _) (va_cwS 1 hts (good_S q9_121 q9_122 q1_9 q9_123) rfl rfl rfl (by decide +kernel) ⟨Nat.le_of_ble_eq_true rfl, Nat.le_of_ble_eq_true rfl⟩) (eK X) eP (eD (A := A)) (eF X) hl.1 rfl rfl (Nat.le_of_ble_eq_true rfl) dX12_set_110 ⟨Nat.le_of_ble_eq_true rfl, Nat.le_of_ble_eq_true rfl⟩ (fun t H1 locs1 ht hB hk hS => ?_)
    have X := Hx_after_none X hk hS
    clear hk hS ht hB
    generalize H1 = H at X ⊢
    generalize locs1 = locs at X ⊢
    refine lv_if_ne (tgt := 118) hx hb dX12_set_113 (by decide) (fun c => ?_) (fun c => ?_)
    · replace hF := iF c hF
      exact (k_X12_set_118 l D hT aT yT) C X (lv_sub hl [0, 1, 3] rfl) hF
    · replace hF := iT c hF
      refine lv_iconst (v := (0 : Int32)) hx hb dX12_set_116 (by decide) ?_
      have hq := Option.some.inj hF
      subst hq
      exact rt_z (v := (0 : Int32)) C X (by decide) dX12_set_117
set_option maxHeartbeats 4000000 in
set_option maxRecDepth 100000 in
theorem k_X12_set_78 (l : Launch) (D : Dx) (hT : Nat) (aT : Nat → Nat) (yT : Nat → ClassId) : S_X12_set_78 l D hT aT yT (b_X12_set_78) := by
  intro p e s m args below meth c H locs A ls gT v1 v4 v5 q C X hl hF
  obtain ⟨hx, hb, hr, hml, hown, hts, hlk⟩ := id C
  unfold b_X12_set_78 at hF
  refine lv_iload hx hb dX12_set_78 (lv_at hl 2 rfl) ?_
  refine lv_bipush (v := (6 : Int32)) hx hb dX12_set_80 (by decide) ?_
  refine lv_icmp_ne (tgt := 101) hx hb dX12_set_82 (by decide) (fun c => ?_) (fun c => ?_)
  · replace hF := iF c hF
    exact (k_X12_set_101 l D hT aT yT) C X (lv_sub hl [0, 1, 2, 3] rfl) hF
  · replace hF := iT c hF
    refine lv_lload hx hb dX12_set_85 (lv_at hl 3 rfl) ?_
    refine lv_bipush (v := (23 : Int32)) hx hb dX12_set_87 (by decide) ?_
    refine lv_lshr hx hb dX12_set_89 rfl ?_
    refine lv_ldc2 hx hb hown (hts _ q8_146) dX12_set_90 ?_
    refine lv_land hx hb dX12_set_93 ?_
    refine lv_ldc2 hx hb hown (hts _ q8_146) dX12_set_94 ?_
    refine W.lcmp hx hb dX12_set_97 ?_
    refine lv_if_eq (tgt := 116) hx hb dX12_set_98 (by decide) (fun c => ?_) (fun c => ?_)
    · have c := (lg_cmp_eq _ _).mp c
      replace hF := iT c hF
      refine lv_iconst (v := (0 : Int32)) hx hb dX12_set_116 (by decide) ?_
      have hq := Option.some.inj hF
      subst hq
      exact rt_z (v := (0 : Int32)) C X (by decide) dX12_set_117
    · have c := fun h => c ((lg_cmp_eq _ _).mpr h)
      replace hF := iF c hF
      exact (k_X12_set_101 l D hT aT yT) C X (lv_sub hl [0, 1, 2, 3] rfl) hF
set_option maxHeartbeats 4000000 in
set_option maxRecDepth 100000 in
theorem c_X12_set (l : Launch) (D : Dx) (hT : Nat) (aT : Nat → Nat) (yT : Nat → ClassId) (gT : Gs) (x0 : Int32) (x1 : Int64) (q : Int32 × Gs) (hF : f_X12_set gT x0 x1 = some q) (sz : Nat) : Met l yX12_set (ws_ yX12_set cX12_set 7 (some .boolean)) R_X12_set (PC D (tX12 yT) [.ref hT, .int x0, .long x1] (wX12 hT aT yT gT) sz) (QI D (va_A (wX12 hT aT yT gT) sz) (wX12 hT aT yT q.2) q.1) 0 0 (va_A (wX12 hT aT yT gT) sz) := by
  refine Met.ofW (cc := cX12_set) (maxL := 7) (ret := (some .boolean)) (by decide) rfl ?_
  intro p e s m args below meth c s₁ B hml hv
  obtain ⟨rfl, hsz, hP, hK, hD, hN⟩ := hv
  subst hsz
  have C : Cx p s m _ meth c cX12_set (some .boolean) 7 RX12 lw_all := Cx_of B hml
  have X := Hx_start hP hK hD hN
  obtain ⟨hx, hb, hr, -, hown, hts, hlk⟩ := id C
  generalize va_A (wX12 hT aT yT gT) s.heap.size = A at X ⊢
  have hl := lv_entry ([.ref hT, .int x0, .long x1]) (n := 7) (Nat.le_of_ble_eq_true rfl)
  rw [lg_entry_eq]
  generalize (lg_sl ([.ref hT, .int x0, .long x1]) ++ List.replicate (7 - (lg_sl ([.ref hT, .int x0, .long x1])).length) Slot.unset).toArray = ls at hl ⊢
  have hl : lv_has ls 7 [(0, .ref hT), (1, .int x0), (2, .long x1)] := hl
  unfold f_X12_set at hF
  refine lv_iload_n hx hb dX12_set_0 rfl (lv_at hl 1 rfl) ?_
  refine lv_if_lt (tgt := 21) hx hb dX12_set_1 (by decide) (fun c => ?_) (fun c => ?_)
  · replace hF := iT c hF
    refine lv_iconst (v := (0 : Int32)) hx hb dX12_set_21 (by decide) ?_
    have hq := Option.some.inj hF
    subst hq
    exact rt_z (v := (0 : Int32)) C X (by decide) dX12_set_22
  · replace hF := iF c hF
    refine lv_iload_n hx hb dX12_set_4 rfl (lv_at hl 1 rfl) ?_
    refine lv_aload_n hx hb dX12_set_5 rfl (lv_at hl 0 rfl) ?_
    refine va_get (D := D.1) (ci := 12) (v := .int (gI gT 60)) (C := RX12) (T := TX12) (N := 114) hx hb hts wi_X12 hown X.1 X.2.1 0 rfl rfl 60 (by decide) (hts _ q7_14) (fun _ h9 => h9) (fl_get (by decide)) dX12_set_6 ?_
    refine lv_icmp_ge (tgt := 21) hx hb dX12_set_9 (by decide) (fun c => ?_) (fun c => ?_)
    · replace hF := iT c hF
      refine lv_iconst (v := (0 : Int32)) hx hb dX12_set_21 (by decide) ?_
      have hq := Option.some.inj hF
      subst hq
      exact rt_z (v := (0 : Int32)) C X (by decide) dX12_set_22
    · replace hF := iF c hF
      refine lv_aload_n hx hb dX12_set_12 rfl (lv_at hl 0 rfl) ?_
      refine va_get (D := D.1) (ci := 12) (v := .ref (aT 68)) (C := RX12) (T := TX12) (N := 114) hx hb hts wi_X12 hown X.1 X.2.1 0 rfl rfl 68 (by decide) (hts _ q7_22) (fun _ h9 => h9) (fl_get (by decide)) dX12_set_13 ?_
      refine lv_iload_n hx hb dX12_set_16 rfl (lv_at hl 1 rfl) ?_
      obtain ⟨h_1, hF⟩ := grd_some hF
      refine va_zald (D := D.1) (f := gIA gT 68) hx hb X.1 X.2.1 43 42 rfl rfl (inB_ok h_1) dX12_set_17 ?_
      refine lv_if_ne (tgt := 23) hx hb dX12_set_18 (by decide) (fun c => ?_) (fun c => ?_)
      · replace hF := iF c hF
        refine lv_aload_n hx hb dX12_set_23 rfl (lv_at hl 0 rfl) ?_
        refine va_get (D := D.1) (ci := 12) (v := .ref (aT 67)) (C := RX12) (T := TX12) (N := 114) hx hb hts wi_X12 hown X.1 X.2.1 0 rfl rfl 67 (by decide) (hts _ q7_21) (fun _ h9 => h9) (fl_get (by decide)) dX12_set_24 ?_
        refine lv_iload_n hx hb dX12_set_27 rfl (lv_at hl 1 rfl) ?_
        obtain ⟨h_2, hF⟩ := grd_some hF
        refine va_iald (D := D.1) (f := gIA gT 67) hx hb X.1 X.2.1 42 41 rfl rfl (inB_ok h_2) dX12_set_28 ?_
        refine lv_istore (lv' := [(4, .int (gIA gT 67 x0.toNatClampNeg)), (0, .ref hT), (1, .int x0), (2, .long x1)]) hx hb dX12_set_29 hl (by decide) rfl (fun ls hl => ?_)
        refine lv_lload_n hx hb dX12_set_31 rfl (lv_at hl 3 rfl) ?_
        refine lv_lstore (lv' := [(5, .long x1), (4, .int (gIA gT 67 x0.toNatClampNeg)), (0, .ref hT), (1, .int x0), (2, .long x1)]) hx hb dX12_set_32 hl (by decide) rfl (fun ls hl => ?_)
        refine lv_iload hx hb dX12_set_34 (lv_at hl 1 rfl) ?_
        refine lv_if_ne (tgt := 47) hx hb dX12_set_36 (by decide) (fun c => ?_) (fun c => ?_)
        · replace hF := iF c hF
          refine lv_iload hx hb dX12_set_47 (lv_at hl 1 rfl) ?_
          refine lv_iconst (v := (5 : Int32)) hx hb dX12_set_49 (by decide) ?_
          refine lv_icmp_ge (tgt := 64) hx hb dX12_set_50 (by decide) (fun c => ?_) (fun c => ?_)
          · replace hF := iT c hF
            refine lv_iload hx hb dX12_set_64 (lv_at hl 1 rfl) ?_
            refine lv_bipush (v := (6 : Int32)) hx hb dX12_set_66 (by decide) ?_
            refine lv_icmp_ne (tgt := 78) hx hb dX12_set_68 (by decide) (fun c => ?_) (fun c => ?_)
            · replace hF := iF c hF
              exact (k_X12_set_78 l D hT aT yT) C X (lv_sub hl [2, 3, 1, 0] rfl) hF
            · replace hF := iT c hF
              refine lv_lload_n hx hb dX12_set_71 rfl (lv_at hl 4 rfl) ?_
              refine lv_iconst (v := (4 : Int32)) hx hb dX12_set_72 (by decide) ?_
              obtain ⟨q_7, hc_8, hF⟩ := bnd_some hF
              refine cS_l (As := [.long x1, .int (4 : Int32)]) (rest := []) C X (c_X12_narrowed l D  x1 (4 : Int32) q_7 hc_8 _) (va_cwS 2 hts (good_S q8_143 q8_144 q1_9 q8_145) rfl rfl rfl (by decide +kernel) ⟨Nat.le_of_ble_eq_true rfl, Nat.le_of_ble_eq_true rfl⟩) (eK X) eP (eD (A := A)) (eF X) hl.1 rfl rfl (Nat.le_of_ble_eq_true rfl) dX12_set_73 ⟨Nat.le_of_ble_eq_true rfl, Nat.le_of_ble_eq_true rfl⟩ (fun t H1 locs1 ht hB hk hS => ?_)
              have X := Hx_after_none X hk hS
              clear hk hS ht hB
              generalize H1 = H at X ⊢
              generalize locs1 = locs at X ⊢
              refine lv_lstore (lv' := [(5, .long q_7), (4, .int (gIA gT 67 x0.toNatClampNeg)), (0, .ref hT), (1, .int x0), (2, .long x1)]) hx hb dX12_set_76 hl (by decide) rfl (fun ls hl => ?_)
              exact (k_X12_set_78 l D hT aT yT) C X (lv_sub hl [2, 3, 1, 0] rfl) hF
          · replace hF := iF c hF
            refine lv_lload_n hx hb dX12_set_53 rfl (lv_at hl 4 rfl) ?_
            refine lv_iload hx hb dX12_set_54 (lv_at hl 1 rfl) ?_
            obtain ⟨q_9, hc_10, hF⟩ := bnd_some hF
            refine cS_l (As := [.long x1, .int (gIA gT 67 x0.toNatClampNeg)]) (rest := []) C X (c_X12_narrowed l D  x1 (gIA gT 67 x0.toNatClampNeg) q_9 hc_10 _) (va_cwS 2 hts (good_S q8_143 q8_144 q1_9 q8_145) rfl rfl rfl (by decide +kernel) ⟨Nat.le_of_ble_eq_true rfl, Nat.le_of_ble_eq_true rfl⟩) (eK X) eP (eD (A := A)) (eF X) hl.1 rfl rfl (Nat.le_of_ble_eq_true rfl) dX12_set_56 ⟨Nat.le_of_ble_eq_true rfl, Nat.le_of_ble_eq_true rfl⟩ (fun t H1 locs1 ht hB hk hS => ?_)
            have X := Hx_after_none X hk hS
            clear hk hS ht hB
            generalize H1 = H at X ⊢
            generalize locs1 = locs at X ⊢
            refine lv_lstore (lv' := [(5, .long q_9), (4, .int (gIA gT 67 x0.toNatClampNeg)), (0, .ref hT), (1, .int x0), (2, .long x1)]) hx hb dX12_set_59 hl (by decide) rfl (fun ls hl => ?_)
            refine lv_goto (tgt := 78) hx hb dX12_set_61 (by decide) ?_
            exact (k_X12_set_78 l D hT aT yT) C X (lv_sub hl [2, 3, 1, 0] rfl) hF
        · replace hF := iT c hF
          refine lv_lload_n hx hb dX12_set_39 rfl (lv_at hl 4 rfl) ?_
          refine lv_lconst (v := (1 : Int64)) hx hb dX12_set_40 (by decide) ?_
          refine lv_land hx hb dX12_set_41 ?_
          refine lv_lstore (lv' := [(5, .long (x1 &&& (1 : Int64))), (4, .int (gIA gT 67 x0.toNatClampNeg)), (0, .ref hT), (1, .int x0), (2, .long x1)]) hx hb dX12_set_42 hl (by decide) rfl (fun ls hl => ?_)
          refine lv_goto (tgt := 78) hx hb dX12_set_44 (by decide) ?_
          exact (k_X12_set_78 l D hT aT yT) C X (lv_sub hl [2, 3, 1, 0] rfl) hF
      · replace hF := iT c hF
        refine lv_iconst (v := (0 : Int32)) hx hb dX12_set_21 (by decide) ?_
        have hq := Option.some.inj hF
        subst hq
        exact rt_z (v := (0 : Int32)) C X (by decide) dX12_set_22

/-! ### X12_step -/
theorem dX12_step_0 : decode cX12_step 0 = .ok (.lload_n 1, 1) := by decide +kernel
theorem dX12_step_1 : decode cX12_step 1 = .ok (.invokestatic 501, 3) := by decide +kernel
theorem dX12_step_4 : decode cX12_step 4 = .ok (.ifCond .ne 5, 3) := by decide +kernel
theorem dX12_step_7 : decode cX12_step 7 = .ok (.iconst 0, 1) := by decide +kernel
theorem dX12_step_8 : decode cX12_step 8 = .ok (.ireturn, 1) := by decide +kernel
theorem dX12_step_9 : decode cX12_step 9 = .ok (.aload_n 0, 1) := by decide +kernel
theorem dX12_step_10 : decode cX12_step 10 = .ok (.lload_n 1, 1) := by decide +kernel
theorem dX12_step_11 : decode cX12_step 11 = .ok (.putfield 334, 3) := by decide +kernel
theorem dX12_step_14 : decode cX12_step 14 = .ok (.iconst 1, 1) := by decide +kernel
theorem dX12_step_15 : decode cX12_step 15 = .ok (.ireturn, 1) := by decide +kernel
abbrev R_X12_step : Room := ({ frames := 1, cells := 0, slots := 0, locals := 21 } : Room)
def f_X12_step (gT : Gs) (x0 : Int64) : Option (Int32 × Gs) :=
  bnd (f_X12_isFinite x0) (fun q_1 => if q_1 = 0 then (some ((0 : Int32), gT)) else (some ((1 : Int32), (sL gT 91 x0))))
set_option maxHeartbeats 4000000 in
set_option maxRecDepth 100000 in
theorem c_X12_step (l : Launch) (D : Dx) (hT : Nat) (aT : Nat → Nat) (yT : Nat → ClassId) (gT : Gs) (x0 : Int64) (q : Int32 × Gs) (hF : f_X12_step gT x0 = some q) (sz : Nat) : Met l yX12_step (ws_ yX12_step cX12_step 3 (some .boolean)) R_X12_step (PC D (tX12 yT) [.ref hT, .long x0] (wX12 hT aT yT gT) sz) (QI D (va_A (wX12 hT aT yT gT) sz) (wX12 hT aT yT q.2) q.1) 0 0 (va_A (wX12 hT aT yT gT) sz) := by
  refine Met.ofW (cc := cX12_step) (maxL := 3) (ret := (some .boolean)) (by decide) rfl ?_
  intro p e s m args below meth c s₁ B hml hv
  obtain ⟨rfl, hsz, hP, hK, hD, hN⟩ := hv
  subst hsz
  have C : Cx p s m _ meth c cX12_step (some .boolean) 3 RX12 lw_all := Cx_of B hml
  have X := Hx_start hP hK hD hN
  obtain ⟨hx, hb, hr, -, hown, hts, hlk⟩ := id C
  generalize va_A (wX12 hT aT yT gT) s.heap.size = A at X ⊢
  have hl := lv_entry ([.ref hT, .long x0]) (n := 3) (Nat.le_of_ble_eq_true rfl)
  rw [lg_entry_eq]
  generalize (lg_sl ([.ref hT, .long x0]) ++ List.replicate (3 - (lg_sl ([.ref hT, .long x0])).length) Slot.unset).toArray = ls at hl ⊢
  have hl : lv_has ls 3 [(0, .ref hT), (1, .long x0)] := hl
  unfold f_X12_step at hF
  refine lv_lload_n hx hb dX12_step_0 rfl (lv_at hl 1 rfl) ?_
  obtain ⟨q_1, hc_2, hF⟩ := bnd_some hF
  refine cS_i (As := [.long x0]) (rest := []) C X (c_X12_isFinite l D  x0 q_1 hc_2 _) (va_cwS 1 hts (good_S q9_121 q9_122 q1_9 q9_123) rfl rfl rfl (by decide +kernel) ⟨Nat.le_of_ble_eq_true rfl, Nat.le_of_ble_eq_true rfl⟩) (eK X) eP (eD (A := A)) (eF X) hl.1 rfl rfl (Nat.le_of_ble_eq_true rfl) dX12_step_1 ⟨Nat.le_of_ble_eq_true rfl, Nat.le_of_ble_eq_true rfl⟩ (fun t H1 locs1 ht hB hk hS => ?_)
  have X := Hx_after_none X hk hS
  clear hk hS ht hB
  generalize H1 = H at X ⊢
  generalize locs1 = locs at X ⊢
  refine lv_if_ne (tgt := 9) hx hb dX12_step_4 (by decide) (fun c => ?_) (fun c => ?_)
  · replace hF := iF c hF
    refine lv_aload_n hx hb dX12_step_9 rfl (lv_at hl 0 rfl) ?_
    refine lv_lload_n hx hb dX12_step_10 rfl (lv_at hl 1 rfl) ?_
    refine va_put (D := D.1) (ci := 12) (v := .long x0) (ty := .long) (C := RX12) (T := TX12) (N := 114) hx hb hts wi_X12 tyX12 tyX12_ok nmX12 hown X.1 X.2.1 X.2.2.1 X.2.2.2.1 0 rfl rfl 91 (by decide) (hts _ q7_45) (fun _ h9 => h9) rfl (by decide +kernel) rfl rfl (by rw [List.length_map, List.length_range]; decide) dX12_step_11 (fun H locs hP hD hS => ?_)
    have X : Hx D (tX12 yT) A s H locs (wX12 hT aT yT (sL gT 91 x0)) := Hx_set X (wG_sL (k := 91) rfl) hP hD hS
    refine lv_iconst (v := (1 : Int32)) hx hb dX12_step_14 (by decide) ?_
    have hq := Option.some.inj hF
    subst hq
    exact rt_z (v := (1 : Int32)) C X (by decide) dX12_step_15
  · replace hF := iT c hF
    refine lv_iconst (v := (0 : Int32)) hx hb dX12_step_7 (by decide) ?_
    have hq := Option.some.inj hF
    subst hq
    exact rt_z (v := (0 : Int32)) C X (by decide) dX12_step_8
