theorem q7_12 : Cond.fieldLink RX12 232 "TurningHallModel" "high" "I" ∈ lw_all := lw_in (tc_7 (List.mem_of_getElem? (i := 12) rfl)) rfl
theorem q7_11 : Cond.fieldLink RX12 229 "TurningHallModel" "pile" "[I" ∈ lw_all := lw_in (tc_7 (List.mem_of_getElem? (i := 11) rfl)) rfl
theorem q7_13 : Cond.fieldLink RX12 235 "TurningHallModel" "reading" "Z" ∈ lw_all := lw_in (tc_7 (List.mem_of_getElem? (i := 13) rfl)) rfl
theorem q7_21 : Cond.fieldLink RX12 259 "TurningHallModel" "sorts" "[I" ∈ lw_all := lw_in (tc_7 (List.mem_of_getElem? (i := 21) rfl)) rfl
theorem q6_232 : Cond.fieldLink RX12 171 "TurningHallModel" "rSort" "[I" ∈ lw_all := lw_in (tc_6 (List.mem_of_getElem? (i := 232) rfl)) rfl
theorem q9_44 : Cond.methodLink RX12 616 yX12_isNumber ∈ lw_all := lw_in (tc_9 (List.mem_of_getElem? (i := 44) rfl)) rfl
theorem q9_45 : Cond.static yX12_isNumber ∈ lw_all := lw_in (tc_9 (List.mem_of_getElem? (i := 45) rfl)) rfl
theorem q9_46 : Cond.code yX12_isNumber cX12_isNumber 1 (some .boolean) ∈ lw_all := lw_in (tc_9 (List.mem_of_getElem? (i := 46) rfl)) rfl
theorem q9_47 : Cond.methodLink RX12 619 yX12_gives ∈ lw_all := lw_in (tc_9 (List.mem_of_getElem? (i := 47) rfl)) rfl
theorem q9_49 : Cond.instanceMethod yX12_gives ∈ lw_all := lw_in (tc_9 (List.mem_of_getElem? (i := 49) rfl)) rfl
theorem q0_105 : Cond.selects RX12 yX12_gives yX12_gives ∈ lw_all := lw_in (tc_0 (List.mem_of_getElem? (i := 105) rfl)) rfl
theorem q9_50 : Cond.code yX12_gives cX12_gives 3 none ∈ lw_all := lw_in (tc_9 (List.mem_of_getElem? (i := 50) rfl)) rfl
theorem q9_51 : Cond.methodLink RX12 623 yX12_sortOf ∈ lw_all := lw_in (tc_9 (List.mem_of_getElem? (i := 51) rfl)) rfl
theorem q9_53 : Cond.instanceMethod yX12_sortOf ∈ lw_all := lw_in (tc_9 (List.mem_of_getElem? (i := 53) rfl)) rfl
theorem q0_106 : Cond.selects RX12 yX12_sortOf yX12_sortOf ∈ lw_all := lw_in (tc_0 (List.mem_of_getElem? (i := 106) rfl)) rfl
theorem q9_54 : Cond.code yX12_sortOf cX12_sortOf 2 (some .int) ∈ lw_all := lw_in (tc_9 (List.mem_of_getElem? (i := 54) rfl)) rfl
theorem q9_55 : Cond.methodLink RX12 626 yX12_joined ∈ lw_all := lw_in (tc_9 (List.mem_of_getElem? (i := 55) rfl)) rfl
theorem q9_56 : Cond.static yX12_joined ∈ lw_all := lw_in (tc_9 (List.mem_of_getElem? (i := 56) rfl)) rfl
theorem q9_57 : Cond.code yX12_joined cX12_joined 2 (some .int) ∈ lw_all := lw_in (tc_9 (List.mem_of_getElem? (i := 57) rfl)) rfl
theorem q9_40 : Cond.methodLink RX12 630 yX12_sorted ∈ lw_all := lw_in (tc_9 (List.mem_of_getElem? (i := 40) rfl)) rfl
theorem q9_42 : Cond.instanceMethod yX12_sorted ∈ lw_all := lw_in (tc_9 (List.mem_of_getElem? (i := 42) rfl)) rfl
theorem q0_104 : Cond.selects RX12 yX12_sorted yX12_sorted ∈ lw_all := lw_in (tc_0 (List.mem_of_getElem? (i := 104) rfl)) rfl
theorem q9_43 : Cond.code yX12_sorted cX12_sorted 8 (some .boolean) ∈ lw_all := lw_in (tc_9 (List.mem_of_getElem? (i := 43) rfl)) rfl
theorem q9_36 : Cond.methodLink RX12 633 yX12_judged ∈ lw_all := lw_in (tc_9 (List.mem_of_getElem? (i := 36) rfl)) rfl
theorem q9_38 : Cond.instanceMethod yX12_judged ∈ lw_all := lw_in (tc_9 (List.mem_of_getElem? (i := 38) rfl)) rfl
theorem q0_103 : Cond.selects RX12 yX12_judged yX12_judged ∈ lw_all := lw_in (tc_0 (List.mem_of_getElem? (i := 103) rfl)) rfl
theorem q9_39 : Cond.code yX12_judged cX12_judged 4 (some .int) ∈ lw_all := lw_in (tc_9 (List.mem_of_getElem? (i := 39) rfl)) rfl
theorem q9_58 : Cond.methodLink RX12 636 yX12_comes ∈ lw_all := lw_in (tc_9 (List.mem_of_getElem? (i := 58) rfl)) rfl
theorem q9_59 : Cond.static yX12_comes ∈ lw_all := lw_in (tc_9 (List.mem_of_getElem? (i := 59) rfl)) rfl
theorem q9_60 : Cond.code yX12_comes cX12_comes 2 (some .boolean) ∈ lw_all := lw_in (tc_9 (List.mem_of_getElem? (i := 60) rfl)) rfl
theorem q6_234 : Cond.fieldLink RX12 178 "TurningHallModel" "rFrom" "[I" ∈ lw_all := lw_in (tc_6 (List.mem_of_getElem? (i := 234) rfl)) rfl
theorem q6_235 : Cond.fieldLink RX12 181 "TurningHallModel" "rThen" "[I" ∈ lw_all := lw_in (tc_6 (List.mem_of_getElem? (i := 235) rfl)) rfl
theorem q6_237 : Cond.fieldLink RX12 187 "TurningHallModel" "rEqual" "[I" ∈ lw_all := lw_in (tc_6 (List.mem_of_getElem? (i := 237) rfl)) rfl
theorem q9_32 : Cond.methodLink RX12 639 yX12_fits ∈ lw_all := lw_in (tc_9 (List.mem_of_getElem? (i := 32) rfl)) rfl
theorem q9_34 : Cond.instanceMethod yX12_fits ∈ lw_all := lw_in (tc_9 (List.mem_of_getElem? (i := 34) rfl)) rfl
theorem q0_102 : Cond.selects RX12 yX12_fits yX12_fits ∈ lw_all := lw_in (tc_0 (List.mem_of_getElem? (i := 102) rfl)) rfl
theorem q9_35 : Cond.code yX12_fits cX12_fits 6 (some .boolean) ∈ lw_all := lw_in (tc_9 (List.mem_of_getElem? (i := 35) rfl)) rfl
theorem q6_233 : Cond.fieldLink RX12 174 "TurningHallModel" "rPart" "[Z" ∈ lw_all := lw_in (tc_6 (List.mem_of_getElem? (i := 233) rfl)) rfl
theorem q6_236 : Cond.fieldLink RX12 184 "TurningHallModel" "rTo" "[I" ∈ lw_all := lw_in (tc_6 (List.mem_of_getElem? (i := 236) rfl)) rfl
theorem q6_238 : Cond.fieldLink RX12 190 "TurningHallModel" "rThenAt" "[I" ∈ lw_all := lw_in (tc_6 (List.mem_of_getElem? (i := 238) rfl)) rfl
theorem q7_1 : Cond.fieldLink RX12 199 "TurningHallModel" "rNext" "[I" ∈ lw_all := lw_in (tc_7 (List.mem_of_getElem? (i := 1) rfl)) rfl
theorem q7_0 : Cond.fieldLink RX12 196 "TurningHallModel" "rGot" "[I" ∈ lw_all := lw_in (tc_7 (List.mem_of_getElem? (i := 0) rfl)) rfl
theorem q7_3 : Cond.fieldLink RX12 205 "TurningHallModel" "bFrom" "[I" ∈ lw_all := lw_in (tc_7 (List.mem_of_getElem? (i := 3) rfl)) rfl
theorem q7_4 : Cond.fieldLink RX12 208 "TurningHallModel" "bTo" "[I" ∈ lw_all := lw_in (tc_7 (List.mem_of_getElem? (i := 4) rfl)) rfl
theorem q7_5 : Cond.fieldLink RX12 211 "TurningHallModel" "bWhen" "[I" ∈ lw_all := lw_in (tc_7 (List.mem_of_getElem? (i := 5) rfl)) rfl
theorem q6_239 : Cond.fieldLink RX12 193 "TurningHallModel" "rRank" "[I" ∈ lw_all := lw_in (tc_6 (List.mem_of_getElem? (i := 239) rfl)) rfl
theorem q7_6 : Cond.fieldLink RX12 214 "TurningHallModel" "bRank" "[I" ∈ lw_all := lw_in (tc_7 (List.mem_of_getElem? (i := 6) rfl)) rfl
/-! ### X12_gives -/
theorem dX12_gives_0 : decode cX12_gives 0 = .ok (.aload_n 0, 1) := by decide +kernel
theorem dX12_gives_1 : decode cX12_gives 1 = .ok (.dup, 1) := by decide +kernel
theorem dX12_gives_2 : decode cX12_gives 2 = .ok (.getfield 232, 3) := by decide +kernel
theorem dX12_gives_5 : decode cX12_gives 5 = .ok (.iload_n 1, 1) := by decide +kernel
theorem dX12_gives_6 : decode cX12_gives 6 = .ok (.isub, 1) := by decide +kernel
theorem dX12_gives_7 : decode cX12_gives 7 = .ok (.putfield 232, 3) := by decide +kernel
theorem dX12_gives_10 : decode cX12_gives 10 = .ok (.aload_n 0, 1) := by decide +kernel
theorem dX12_gives_11 : decode cX12_gives 11 = .ok (.getfield 229, 3) := by decide +kernel
theorem dX12_gives_14 : decode cX12_gives 14 = .ok (.aload_n 0, 1) := by decide +kernel
theorem dX12_gives_15 : decode cX12_gives 15 = .ok (.getfield 232, 3) := by decide +kernel
theorem dX12_gives_18 : decode cX12_gives 18 = .ok (.iload_n 2, 1) := by decide +kernel
theorem dX12_gives_19 : decode cX12_gives 19 = .ok (.iastore, 1) := by decide +kernel
theorem dX12_gives_20 : decode cX12_gives 20 = .ok (.aload_n 0, 1) := by decide +kernel
theorem dX12_gives_21 : decode cX12_gives 21 = .ok (.dup, 1) := by decide +kernel
theorem dX12_gives_22 : decode cX12_gives 22 = .ok (.getfield 232, 3) := by decide +kernel
theorem dX12_gives_25 : decode cX12_gives 25 = .ok (.iconst 1, 1) := by decide +kernel
theorem dX12_gives_26 : decode cX12_gives 26 = .ok (.iadd, 1) := by decide +kernel
theorem dX12_gives_27 : decode cX12_gives 27 = .ok (.putfield 232, 3) := by decide +kernel
theorem dX12_gives_30 : decode cX12_gives 30 = .ok (.return_, 1) := by decide +kernel
abbrev R_X12_gives : Room := ({ frames := 0, cells := 0, slots := 0, locals := 0 } : Room)
def f_X12_gives (gT : Gs) (x0 : Int32) (x1 : Int32) : Option (Gs) :=
  grd (inB ((gI gT 58) - x0) 400) (some (sI (sIA (sI gT 58 ((gI gT 58) - x0)) 57 (upd (gIA gT 57) ((gI gT 58) - x0).toNatClampNeg x1)) 58 (((gI gT 58) - x0) + (1 : Int32))))
set_option maxHeartbeats 4000000 in
set_option maxRecDepth 100000 in
theorem c_X12_gives (l : Launch) (D : Dx) (hT : Nat) (aT : Nat → Nat) (yT : Nat → ClassId) (gT : Gs) (x0 : Int32) (x1 : Int32) (q : Gs) (hF : f_X12_gives gT x0 x1 = some q) (sz : Nat) : Met l yX12_gives (ws_ yX12_gives cX12_gives 3 none) R_X12_gives (PC D (tX12 yT) [.ref hT, .int x0, .int x1] (wX12 hT aT yT gT) sz) (QV D (va_A (wX12 hT aT yT gT) sz) (wX12 hT aT yT q)) 0 0 (va_A (wX12 hT aT yT gT) sz) := by
  refine Met.ofW (cc := cX12_gives) (maxL := 3) (ret := none) (by decide) rfl ?_
  intro p e s m args below meth c s₁ B hml hv
  obtain ⟨rfl, hsz, hP, hK, hD, hN⟩ := hv
  subst hsz
  have C : Cx p s m _ meth c cX12_gives none 3 RX12 lw_all := Cx_of B hml
  have X := Hx_start hP hK hD hN
  obtain ⟨hx, hb, hr, -, hown, hts, hlk⟩ := id C
  generalize va_A (wX12 hT aT yT gT) s.heap.size = A at X ⊢
  have hl := lv_entry ([.ref hT, .int x0, .int x1]) (n := 3) (Nat.le_of_ble_eq_true rfl)
  rw [lg_entry_eq]
  generalize (lg_sl ([.ref hT, .int x0, .int x1]) ++ List.replicate (3 - (lg_sl ([.ref hT, .int x0, .int x1])).length) Slot.unset).toArray = ls at hl ⊢
  have hl : lv_has ls 3 [(0, .ref hT), (1, .int x0), (2, .int x1)] := hl
  unfold f_X12_gives at hF
  refine lv_aload_n hx hb dX12_gives_0 rfl (lv_at hl 0 rfl) ?_
  refine lv_dup hx hb dX12_gives_1 rfl ?_
  refine va_get (D := D.1) (ci := 12) (v := .int (gI gT 58)) (C := RX12) (T := TX12) (N := 114) hx hb hts wi_X12 hown X.1 X.2.1 0 rfl rfl 58 (by decide) (hts _ q7_12) (fun _ h9 => h9) (fl_get (by decide)) dX12_gives_2 ?_
  refine lv_iload_n hx hb dX12_gives_5 rfl (lv_at hl 1 rfl) ?_
  refine lv_isub hx hb dX12_gives_6 ?_
  refine va_put (D := D.1) (ci := 12) (v := .int ((gI gT 58) - x0)) (ty := .int) (C := RX12) (T := TX12) (N := 114) hx hb hts wi_X12 tyX12 tyX12_ok nmX12 hown X.1 X.2.1 X.2.2.1 X.2.2.2.1 0 rfl rfl 58 (by decide) (hts _ q7_12) (fun _ h9 => h9) rfl (by decide +kernel) rfl rfl (by rw [List.length_map, List.length_range]; decide) dX12_gives_7 (fun H locs hP hD hS => ?_)
  have X : Hx D (tX12 yT) A s H locs (wX12 hT aT yT (sI gT 58 ((gI gT 58) - x0))) := Hx_set X (wG_sI (k := 58) rfl) hP hD hS
  refine lv_aload_n hx hb dX12_gives_10 rfl (lv_at hl 0 rfl) ?_
  refine va_get (D := D.1) (ci := 12) (v := .ref (aT 57)) (C := RX12) (T := TX12) (N := 114) hx hb hts wi_X12 hown X.1 X.2.1 0 rfl rfl 57 (by decide) (hts _ q7_11) (fun _ h9 => h9) (fl_get (by decide)) dX12_gives_11 ?_
  refine lv_aload_n hx hb dX12_gives_14 rfl (lv_at hl 0 rfl) ?_
  refine va_get (D := D.1) (ci := 12) (v := .int ((gI gT 58) - x0)) (C := RX12) (T := TX12) (N := 114) hx hb hts wi_X12 hown X.1 X.2.1 0 rfl rfl 58 (by decide) (hts _ q7_12) (fun _ h9 => h9) (fl_get (by decide)) dX12_gives_15 ?_
  refine lv_iload_n hx hb dX12_gives_18 rfl (lv_at hl 2 rfl) ?_
  obtain ⟨h_1, hF⟩ := grd_some hF
  refine va_iast (D := D.1) (f := gIA gT 57) hx hb X.1 X.2.1 X.2.2.1 X.2.2.2.1 39 38 rfl rfl (inB_ok h_1) dX12_gives_19 (fun H locs hP hD hS => ?_)
  have X : Hx D (tX12 yT) A s H locs (wX12 hT aT yT (sIA (sI gT 58 ((gI gT 58) - x0)) 57 (upd (gIA gT 57) ((gI gT 58) - x0).toNatClampNeg x1))) := Hx_set X (wG_sIA (i := 38) (k := 57) ndX12 rfl rfl) hP hD hS
  refine lv_aload_n hx hb dX12_gives_20 rfl (lv_at hl 0 rfl) ?_
  refine lv_dup hx hb dX12_gives_21 rfl ?_
  refine va_get (D := D.1) (ci := 12) (v := .int ((gI gT 58) - x0)) (C := RX12) (T := TX12) (N := 114) hx hb hts wi_X12 hown X.1 X.2.1 0 rfl rfl 58 (by decide) (hts _ q7_12) (fun _ h9 => h9) (fl_get (by decide)) dX12_gives_22 ?_
  refine lv_iconst (v := (1 : Int32)) hx hb dX12_gives_25 (by decide) ?_
  refine lv_iadd hx hb dX12_gives_26 ?_
  refine va_put (D := D.1) (ci := 12) (v := .int (((gI gT 58) - x0) + (1 : Int32))) (ty := .int) (C := RX12) (T := TX12) (N := 114) hx hb hts wi_X12 tyX12 tyX12_ok nmX12 hown X.1 X.2.1 X.2.2.1 X.2.2.2.1 0 rfl rfl 58 (by decide) (hts _ q7_12) (fun _ h9 => h9) rfl (by decide +kernel) rfl rfl (by rw [List.length_map, List.length_range]; decide) dX12_gives_27 (fun H locs hP hD hS => ?_)
  have X : Hx D (tX12 yT) A s H locs (wX12 hT aT yT (sI (sIA (sI gT 58 ((gI gT 58) - x0)) 57 (upd (gIA gT 57) ((gI gT 58) - x0).toNatClampNeg x1)) 58 (((gI gT 58) - x0) + (1 : Int32)))) := Hx_set X (wG_sI (k := 58) rfl) hP hD hS
  have hq := Option.some.inj hF
  subst hq
  exact rt_v C X dX12_gives_30

/-! ### X12_sortOf -/
theorem dX12_sortOf_0 : decode cX12_sortOf 0 = .ok (.aload_n 0, 1) := by decide +kernel
theorem dX12_sortOf_1 : decode cX12_sortOf 1 = .ok (.getfield 235, 3) := by decide +kernel
theorem dX12_sortOf_4 : decode cX12_sortOf 4 = .ok (.ifCond .eq 12, 3) := by decide +kernel
theorem dX12_sortOf_7 : decode cX12_sortOf 7 = .ok (.aload_n 0, 1) := by decide +kernel
theorem dX12_sortOf_8 : decode cX12_sortOf 8 = .ok (.getfield 171, 3) := by decide +kernel
theorem dX12_sortOf_11 : decode cX12_sortOf 11 = .ok (.iload_n 1, 1) := by decide +kernel
theorem dX12_sortOf_12 : decode cX12_sortOf 12 = .ok (.iaload, 1) := by decide +kernel
theorem dX12_sortOf_13 : decode cX12_sortOf 13 = .ok (.goto 9, 3) := by decide +kernel
theorem dX12_sortOf_16 : decode cX12_sortOf 16 = .ok (.aload_n 0, 1) := by decide +kernel
theorem dX12_sortOf_17 : decode cX12_sortOf 17 = .ok (.getfield 259, 3) := by decide +kernel
theorem dX12_sortOf_20 : decode cX12_sortOf 20 = .ok (.iload_n 1, 1) := by decide +kernel
theorem dX12_sortOf_21 : decode cX12_sortOf 21 = .ok (.iaload, 1) := by decide +kernel
theorem dX12_sortOf_22 : decode cX12_sortOf 22 = .ok (.ireturn, 1) := by decide +kernel
abbrev R_X12_sortOf : Room := ({ frames := 0, cells := 0, slots := 0, locals := 0 } : Room)
def f_X12_sortOf (gT : Gs) (x0 : Int32) : Option (Int32) :=
  if (gI gT 59) = 0 then (grd (inB x0 40) (some (gIA gT 67 x0.toNatClampNeg))) else (grd (inB x0 400) (some (gIA gT 38 x0.toNatClampNeg)))
set_option maxHeartbeats 4000000 in
set_option maxRecDepth 100000 in
theorem c_X12_sortOf (l : Launch) (D : Dx) (hT : Nat) (aT : Nat → Nat) (yT : Nat → ClassId) (gT : Gs) (x0 : Int32) (q : Int32) (hF : f_X12_sortOf gT x0 = some q) (sz : Nat) : Met l yX12_sortOf (ws_ yX12_sortOf cX12_sortOf 2 (some .int)) R_X12_sortOf (PC D (tX12 yT) [.ref hT, .int x0] (wX12 hT aT yT gT) sz) (QI D (va_A (wX12 hT aT yT gT) sz) (wX12 hT aT yT gT) q) 0 0 (va_A (wX12 hT aT yT gT) sz) := by
  refine Met.ofW (cc := cX12_sortOf) (maxL := 2) (ret := (some .int)) (by decide) rfl ?_
  intro p e s m args below meth c s₁ B hml hv
  obtain ⟨rfl, hsz, hP, hK, hD, hN⟩ := hv
  subst hsz
  have C : Cx p s m _ meth c cX12_sortOf (some .int) 2 RX12 lw_all := Cx_of B hml
  have X := Hx_start hP hK hD hN
  obtain ⟨hx, hb, hr, -, hown, hts, hlk⟩ := id C
  generalize va_A (wX12 hT aT yT gT) s.heap.size = A at X ⊢
  have hl := lv_entry ([.ref hT, .int x0]) (n := 2) (Nat.le_of_ble_eq_true rfl)
  rw [lg_entry_eq]
  generalize (lg_sl ([.ref hT, .int x0]) ++ List.replicate (2 - (lg_sl ([.ref hT, .int x0])).length) Slot.unset).toArray = ls at hl ⊢
  have hl : lv_has ls 2 [(0, .ref hT), (1, .int x0)] := hl
  unfold f_X12_sortOf at hF
  refine lv_aload_n hx hb dX12_sortOf_0 rfl (lv_at hl 0 rfl) ?_
  refine va_get (D := D.1) (ci := 12) (v := .int (gI gT 59)) (C := RX12) (T := TX12) (N := 114) hx hb hts wi_X12 hown X.1 X.2.1 0 rfl rfl 59 (by decide) (hts _ q7_13) (fun _ h9 => h9) (fl_get (by decide)) dX12_sortOf_1 ?_
  refine lv_if_eq (tgt := 16) hx hb dX12_sortOf_4 (by decide) (fun c => ?_) (fun c => ?_)
  · replace hF := iT c hF
    refine lv_aload_n hx hb dX12_sortOf_16 rfl (lv_at hl 0 rfl) ?_
    refine va_get (D := D.1) (ci := 12) (v := .ref (aT 67)) (C := RX12) (T := TX12) (N := 114) hx hb hts wi_X12 hown X.1 X.2.1 0 rfl rfl 67 (by decide) (hts _ q7_21) (fun _ h9 => h9) (fl_get (by decide)) dX12_sortOf_17 ?_
    refine lv_iload_n hx hb dX12_sortOf_20 rfl (lv_at hl 1 rfl) ?_
    obtain ⟨h_1, hF⟩ := grd_some hF
    refine va_iald (D := D.1) (f := gIA gT 67) hx hb X.1 X.2.1 42 41 rfl rfl (inB_ok h_1) dX12_sortOf_21 ?_
    have hq := Option.some.inj hF
    subst hq
    exact rt_i C X dX12_sortOf_22
  · replace hF := iF c hF
    refine lv_aload_n hx hb dX12_sortOf_7 rfl (lv_at hl 0 rfl) ?_
    refine va_get (D := D.1) (ci := 12) (v := .ref (aT 38)) (C := RX12) (T := TX12) (N := 114) hx hb hts wi_X12 hown X.1 X.2.1 0 rfl rfl 38 (by decide) (hts _ q6_232) (fun _ h9 => h9) (fl_get (by decide)) dX12_sortOf_8 ?_
    refine lv_iload_n hx hb dX12_sortOf_11 rfl (lv_at hl 1 rfl) ?_
    obtain ⟨h_2, hF⟩ := grd_some hF
    refine va_iald (D := D.1) (f := gIA gT 38) hx hb X.1 X.2.1 20 19 rfl rfl (inB_ok h_2) dX12_sortOf_12 ?_
    refine lv_goto (tgt := 22) hx hb dX12_sortOf_13 (by decide) ?_
    have hq := Option.some.inj hF
    subst hq
    exact rt_i C X dX12_sortOf_22

/-! ### X12_sorted -/
theorem dX12_sorted_0 : decode cX12_sorted 0 = .ok (.aload_n 0, 1) := by decide +kernel
theorem dX12_sorted_1 : decode cX12_sorted 1 = .ok (.getfield 232, 3) := by decide +kernel
theorem dX12_sorted_4 : decode cX12_sorted 4 = .ok (.ifCond .le 17, 3) := by decide +kernel
theorem dX12_sorted_7 : decode cX12_sorted 7 = .ok (.aload_n 0, 1) := by decide +kernel
theorem dX12_sorted_8 : decode cX12_sorted 8 = .ok (.getfield 229, 3) := by decide +kernel
theorem dX12_sorted_11 : decode cX12_sorted 11 = .ok (.aload_n 0, 1) := by decide +kernel
theorem dX12_sorted_12 : decode cX12_sorted 12 = .ok (.getfield 232, 3) := by decide +kernel
theorem dX12_sorted_15 : decode cX12_sorted 15 = .ok (.iconst 1, 1) := by decide +kernel
theorem dX12_sorted_16 : decode cX12_sorted 16 = .ok (.isub, 1) := by decide +kernel
theorem dX12_sorted_17 : decode cX12_sorted 17 = .ok (.iaload, 1) := by decide +kernel
theorem dX12_sorted_18 : decode cX12_sorted 18 = .ok (.goto 4, 3) := by decide +kernel
theorem dX12_sorted_21 : decode cX12_sorted 21 = .ok (.iconst 0, 1) := by decide +kernel
theorem dX12_sorted_22 : decode cX12_sorted 22 = .ok (.istore_n 2, 1) := by decide +kernel
theorem dX12_sorted_23 : decode cX12_sorted 23 = .ok (.aload_n 0, 1) := by decide +kernel
theorem dX12_sorted_24 : decode cX12_sorted 24 = .ok (.getfield 232, 3) := by decide +kernel
theorem dX12_sorted_27 : decode cX12_sorted 27 = .ok (.iconst 1, 1) := by decide +kernel
theorem dX12_sorted_28 : decode cX12_sorted 28 = .ok (.if_icmp .le 17, 3) := by decide +kernel
theorem dX12_sorted_31 : decode cX12_sorted 31 = .ok (.aload_n 0, 1) := by decide +kernel
theorem dX12_sorted_32 : decode cX12_sorted 32 = .ok (.getfield 229, 3) := by decide +kernel
theorem dX12_sorted_35 : decode cX12_sorted 35 = .ok (.aload_n 0, 1) := by decide +kernel
theorem dX12_sorted_36 : decode cX12_sorted 36 = .ok (.getfield 232, 3) := by decide +kernel
theorem dX12_sorted_39 : decode cX12_sorted 39 = .ok (.iconst 2, 1) := by decide +kernel
theorem dX12_sorted_40 : decode cX12_sorted 40 = .ok (.isub, 1) := by decide +kernel
theorem dX12_sorted_41 : decode cX12_sorted 41 = .ok (.iaload, 1) := by decide +kernel
theorem dX12_sorted_42 : decode cX12_sorted 42 = .ok (.goto 4, 3) := by decide +kernel
theorem dX12_sorted_45 : decode cX12_sorted 45 = .ok (.iconst 0, 1) := by decide +kernel
theorem dX12_sorted_46 : decode cX12_sorted 46 = .ok (.istore_n 3, 1) := by decide +kernel
theorem dX12_sorted_47 : decode cX12_sorted 47 = .ok (.iload_n 2, 1) := by decide +kernel
theorem dX12_sorted_48 : decode cX12_sorted 48 = .ok (.invokestatic 616, 3) := by decide +kernel
theorem dX12_sorted_51 : decode cX12_sorted 51 = .ok (.ifCond .eq 14, 3) := by decide +kernel
theorem dX12_sorted_54 : decode cX12_sorted 54 = .ok (.iload_n 3, 1) := by decide +kernel
theorem dX12_sorted_55 : decode cX12_sorted 55 = .ok (.invokestatic 616, 3) := by decide +kernel
theorem dX12_sorted_58 : decode cX12_sorted 58 = .ok (.ifCond .eq 7, 3) := by decide +kernel
theorem dX12_sorted_61 : decode cX12_sorted 61 = .ok (.iconst 1, 1) := by decide +kernel
theorem dX12_sorted_62 : decode cX12_sorted 62 = .ok (.goto 4, 3) := by decide +kernel
theorem dX12_sorted_65 : decode cX12_sorted 65 = .ok (.iconst 0, 1) := by decide +kernel
theorem dX12_sorted_66 : decode cX12_sorted 66 = .ok (.istore 4, 2) := by decide +kernel
theorem dX12_sorted_68 : decode cX12_sorted 68 = .ok (.iconst 1, 1) := by decide +kernel
theorem dX12_sorted_69 : decode cX12_sorted 69 = .ok (.istore 5, 2) := by decide +kernel
theorem dX12_sorted_71 : decode cX12_sorted 71 = .ok (.aload_n 0, 1) := by decide +kernel
theorem dX12_sorted_72 : decode cX12_sorted 72 = .ok (.getfield 98, 3) := by decide +kernel
theorem dX12_sorted_75 : decode cX12_sorted 75 = .ok (.iload_n 1, 1) := by decide +kernel
theorem dX12_sorted_76 : decode cX12_sorted 76 = .ok (.iaload, 1) := by decide +kernel
theorem dX12_sorted_77 : decode cX12_sorted 77 = .ok (.tableswitch 589 1 19 #[91, 105, 114, 124, 124, 142, 176, 207, 227, 281, 304, 350, 589, 470, 589, 470, 589, 589, 494], 91) := by decide +kernel
theorem dX12_sorted_168 : decode cX12_sorted 168 = .ok (.aload_n 0, 1) := by decide +kernel
theorem dX12_sorted_169 : decode cX12_sorted 169 = .ok (.iconst 0, 1) := by decide +kernel
theorem dX12_sorted_170 : decode cX12_sorted 170 = .ok (.aload_n 0, 1) := by decide +kernel
theorem dX12_sorted_171 : decode cX12_sorted 171 = .ok (.getfield 101, 3) := by decide +kernel
theorem dX12_sorted_174 : decode cX12_sorted 174 = .ok (.iload_n 1, 1) := by decide +kernel
theorem dX12_sorted_175 : decode cX12_sorted 175 = .ok (.iaload, 1) := by decide +kernel
theorem dX12_sorted_176 : decode cX12_sorted 176 = .ok (.invokevirtual 619, 3) := by decide +kernel
theorem dX12_sorted_179 : decode cX12_sorted 179 = .ok (.goto 487, 3) := by decide +kernel
theorem dX12_sorted_182 : decode cX12_sorted 182 = .ok (.aload_n 0, 1) := by decide +kernel
theorem dX12_sorted_183 : decode cX12_sorted 183 = .ok (.iconst 0, 1) := by decide +kernel
theorem dX12_sorted_184 : decode cX12_sorted 184 = .ok (.iconst 5, 1) := by decide +kernel
theorem dX12_sorted_185 : decode cX12_sorted 185 = .ok (.invokevirtual 619, 3) := by decide +kernel
theorem dX12_sorted_188 : decode cX12_sorted 188 = .ok (.goto 478, 3) := by decide +kernel
theorem dX12_sorted_191 : decode cX12_sorted 191 = .ok (.aload_n 0, 1) := by decide +kernel
theorem dX12_sorted_192 : decode cX12_sorted 192 = .ok (.iconst 0, 1) := by decide +kernel
theorem dX12_sorted_193 : decode cX12_sorted 193 = .ok (.bipush 7, 2) := by decide +kernel
theorem dX12_sorted_195 : decode cX12_sorted 195 = .ok (.invokevirtual 619, 3) := by decide +kernel
theorem dX12_sorted_198 : decode cX12_sorted 198 = .ok (.goto 468, 3) := by decide +kernel
theorem dX12_sorted_201 : decode cX12_sorted 201 = .ok (.aload_n 0, 1) := by decide +kernel
theorem dX12_sorted_202 : decode cX12_sorted 202 = .ok (.iconst 0, 1) := by decide +kernel
theorem dX12_sorted_203 : decode cX12_sorted 203 = .ok (.aload_n 0, 1) := by decide +kernel
theorem dX12_sorted_204 : decode cX12_sorted 204 = .ok (.aload_n 0, 1) := by decide +kernel
theorem dX12_sorted_205 : decode cX12_sorted 205 = .ok (.getfield 101, 3) := by decide +kernel
theorem dX12_sorted_208 : decode cX12_sorted 208 = .ok (.iload_n 1, 1) := by decide +kernel
theorem dX12_sorted_209 : decode cX12_sorted 209 = .ok (.iaload, 1) := by decide +kernel
theorem dX12_sorted_210 : decode cX12_sorted 210 = .ok (.invokevirtual 623, 3) := by decide +kernel
theorem dX12_sorted_213 : decode cX12_sorted 213 = .ok (.invokevirtual 619, 3) := by decide +kernel
theorem dX12_sorted_216 : decode cX12_sorted 216 = .ok (.goto 450, 3) := by decide +kernel
theorem dX12_sorted_219 : decode cX12_sorted 219 = .ok (.iload_n 2, 1) := by decide +kernel
theorem dX12_sorted_220 : decode cX12_sorted 220 = .ok (.iconst 1, 1) := by decide +kernel
theorem dX12_sorted_221 : decode cX12_sorted 221 = .ok (.if_icmp .lt 12, 3) := by decide +kernel
theorem dX12_sorted_224 : decode cX12_sorted 224 = .ok (.iload_n 2, 1) := by decide +kernel
theorem dX12_sorted_225 : decode cX12_sorted 225 = .ok (.iconst 4, 1) := by decide +kernel
theorem dX12_sorted_226 : decode cX12_sorted 226 = .ok (.if_icmp .gt 7, 3) := by decide +kernel
theorem dX12_sorted_229 : decode cX12_sorted 229 = .ok (.iconst 1, 1) := by decide +kernel
theorem dX12_sorted_230 : decode cX12_sorted 230 = .ok (.goto 4, 3) := by decide +kernel
theorem dX12_sorted_233 : decode cX12_sorted 233 = .ok (.iconst 0, 1) := by decide +kernel
theorem dX12_sorted_234 : decode cX12_sorted 234 = .ok (.istore 5, 2) := by decide +kernel
theorem dX12_sorted_236 : decode cX12_sorted 236 = .ok (.aload_n 0, 1) := by decide +kernel
theorem dX12_sorted_237 : decode cX12_sorted 237 = .ok (.getfield 104, 3) := by decide +kernel
theorem dX12_sorted_240 : decode cX12_sorted 240 = .ok (.iload_n 1, 1) := by decide +kernel
theorem dX12_sorted_241 : decode cX12_sorted 241 = .ok (.iload_n 2, 1) := by decide +kernel
theorem dX12_sorted_242 : decode cX12_sorted 242 = .ok (.iastore, 1) := by decide +kernel
theorem dX12_sorted_243 : decode cX12_sorted 243 = .ok (.aload_n 0, 1) := by decide +kernel
theorem dX12_sorted_244 : decode cX12_sorted 244 = .ok (.iconst 1, 1) := by decide +kernel
theorem dX12_sorted_245 : decode cX12_sorted 245 = .ok (.bipush 7, 2) := by decide +kernel
theorem dX12_sorted_247 : decode cX12_sorted 247 = .ok (.invokevirtual 619, 3) := by decide +kernel
theorem dX12_sorted_250 : decode cX12_sorted 250 = .ok (.goto 416, 3) := by decide +kernel
theorem dX12_sorted_253 : decode cX12_sorted 253 = .ok (.iload_n 2, 1) := by decide +kernel
theorem dX12_sorted_254 : decode cX12_sorted 254 = .ok (.invokestatic 616, 3) := by decide +kernel
theorem dX12_sorted_257 : decode cX12_sorted 257 = .ok (.istore 5, 2) := by decide +kernel
theorem dX12_sorted_259 : decode cX12_sorted 259 = .ok (.aload_n 0, 1) := by decide +kernel
theorem dX12_sorted_260 : decode cX12_sorted 260 = .ok (.getfield 104, 3) := by decide +kernel
theorem dX12_sorted_263 : decode cX12_sorted 263 = .ok (.iload_n 1, 1) := by decide +kernel
theorem dX12_sorted_264 : decode cX12_sorted 264 = .ok (.iload_n 2, 1) := by decide +kernel
theorem dX12_sorted_265 : decode cX12_sorted 265 = .ok (.iastore, 1) := by decide +kernel
theorem dX12_sorted_266 : decode cX12_sorted 266 = .ok (.aload_n 0, 1) := by decide +kernel
theorem dX12_sorted_267 : decode cX12_sorted 267 = .ok (.iconst 1, 1) := by decide +kernel
theorem dX12_sorted_268 : decode cX12_sorted 268 = .ok (.iload_n 2, 1) := by decide +kernel
theorem dX12_sorted_269 : decode cX12_sorted 269 = .ok (.iconst 4, 1) := by decide +kernel
theorem dX12_sorted_270 : decode cX12_sorted 270 = .ok (.if_icmp .ge 7, 3) := by decide +kernel
theorem dX12_sorted_273 : decode cX12_sorted 273 = .ok (.iconst 4, 1) := by decide +kernel
theorem dX12_sorted_274 : decode cX12_sorted 274 = .ok (.goto 4, 3) := by decide +kernel
theorem dX12_sorted_277 : decode cX12_sorted 277 = .ok (.iload_n 2, 1) := by decide +kernel
theorem dX12_sorted_278 : decode cX12_sorted 278 = .ok (.invokevirtual 619, 3) := by decide +kernel
theorem dX12_sorted_281 : decode cX12_sorted 281 = .ok (.goto 385, 3) := by decide +kernel
theorem dX12_sorted_284 : decode cX12_sorted 284 = .ok (.iload_n 2, 1) := by decide +kernel
theorem dX12_sorted_285 : decode cX12_sorted 285 = .ok (.ifCond .ne 7, 3) := by decide +kernel
theorem dX12_sorted_288 : decode cX12_sorted 288 = .ok (.iconst 1, 1) := by decide +kernel
theorem dX12_sorted_289 : decode cX12_sorted 289 = .ok (.goto 4, 3) := by decide +kernel
theorem dX12_sorted_292 : decode cX12_sorted 292 = .ok (.iconst 0, 1) := by decide +kernel
theorem dX12_sorted_293 : decode cX12_sorted 293 = .ok (.istore 5, 2) := by decide +kernel
theorem dX12_sorted_295 : decode cX12_sorted 295 = .ok (.aload_n 0, 1) := by decide +kernel
theorem dX12_sorted_296 : decode cX12_sorted 296 = .ok (.iconst 1, 1) := by decide +kernel
theorem dX12_sorted_297 : decode cX12_sorted 297 = .ok (.iconst 0, 1) := by decide +kernel
theorem dX12_sorted_298 : decode cX12_sorted 298 = .ok (.invokevirtual 619, 3) := by decide +kernel
theorem dX12_sorted_301 : decode cX12_sorted 301 = .ok (.goto 365, 3) := by decide +kernel
theorem dX12_sorted_304 : decode cX12_sorted 304 = .ok (.iload_n 2, 1) := by decide +kernel
theorem dX12_sorted_305 : decode cX12_sorted 305 = .ok (.ifCond .ne 7, 3) := by decide +kernel
theorem dX12_sorted_308 : decode cX12_sorted 308 = .ok (.iconst 1, 1) := by decide +kernel
theorem dX12_sorted_309 : decode cX12_sorted 309 = .ok (.goto 4, 3) := by decide +kernel
theorem dX12_sorted_312 : decode cX12_sorted 312 = .ok (.iconst 0, 1) := by decide +kernel
theorem dX12_sorted_313 : decode cX12_sorted 313 = .ok (.aload_n 0, 1) := by decide +kernel
theorem dX12_sorted_314 : decode cX12_sorted 314 = .ok (.getfield 101, 3) := by decide +kernel
theorem dX12_sorted_317 : decode cX12_sorted 317 = .ok (.iload_n 1, 1) := by decide +kernel
theorem dX12_sorted_318 : decode cX12_sorted 318 = .ok (.iaload, 1) := by decide +kernel
theorem dX12_sorted_319 : decode cX12_sorted 319 = .ok (.ifCond .ne 7, 3) := by decide +kernel
theorem dX12_sorted_322 : decode cX12_sorted 322 = .ok (.iconst 1, 1) := by decide +kernel
theorem dX12_sorted_323 : decode cX12_sorted 323 = .ok (.goto 4, 3) := by decide +kernel
theorem dX12_sorted_326 : decode cX12_sorted 326 = .ok (.iconst 0, 1) := by decide +kernel
theorem dX12_sorted_327 : decode cX12_sorted 327 = .ok (.if_icmp .ne 7, 3) := by decide +kernel
theorem dX12_sorted_330 : decode cX12_sorted 330 = .ok (.iconst 1, 1) := by decide +kernel
theorem dX12_sorted_331 : decode cX12_sorted 331 = .ok (.goto 4, 3) := by decide +kernel
theorem dX12_sorted_334 : decode cX12_sorted 334 = .ok (.iconst 0, 1) := by decide +kernel
theorem dX12_sorted_335 : decode cX12_sorted 335 = .ok (.istore 5, 2) := by decide +kernel
theorem dX12_sorted_337 : decode cX12_sorted 337 = .ok (.aload_n 0, 1) := by decide +kernel
theorem dX12_sorted_338 : decode cX12_sorted 338 = .ok (.getfield 104, 3) := by decide +kernel
theorem dX12_sorted_341 : decode cX12_sorted 341 = .ok (.iload_n 1, 1) := by decide +kernel
theorem dX12_sorted_342 : decode cX12_sorted 342 = .ok (.iload_n 2, 1) := by decide +kernel
theorem dX12_sorted_343 : decode cX12_sorted 343 = .ok (.iastore, 1) := by decide +kernel
theorem dX12_sorted_344 : decode cX12_sorted 344 = .ok (.aload_n 0, 1) := by decide +kernel
theorem dX12_sorted_345 : decode cX12_sorted 345 = .ok (.iconst 1, 1) := by decide +kernel
theorem dX12_sorted_346 : decode cX12_sorted 346 = .ok (.aload_n 0, 1) := by decide +kernel
theorem dX12_sorted_347 : decode cX12_sorted 347 = .ok (.getfield 101, 3) := by decide +kernel
theorem dX12_sorted_350 : decode cX12_sorted 350 = .ok (.iload_n 1, 1) := by decide +kernel
theorem dX12_sorted_351 : decode cX12_sorted 351 = .ok (.iaload, 1) := by decide +kernel
theorem dX12_sorted_352 : decode cX12_sorted 352 = .ok (.invokevirtual 619, 3) := by decide +kernel
theorem dX12_sorted_355 : decode cX12_sorted 355 = .ok (.goto 311, 3) := by decide +kernel
theorem dX12_sorted_358 : decode cX12_sorted 358 = .ok (.iload_n 2, 1) := by decide +kernel
theorem dX12_sorted_359 : decode cX12_sorted 359 = .ok (.invokestatic 616, 3) := by decide +kernel
theorem dX12_sorted_362 : decode cX12_sorted 362 = .ok (.istore 5, 2) := by decide +kernel
theorem dX12_sorted_364 : decode cX12_sorted 364 = .ok (.aload_n 0, 1) := by decide +kernel
theorem dX12_sorted_365 : decode cX12_sorted 365 = .ok (.getfield 104, 3) := by decide +kernel
theorem dX12_sorted_368 : decode cX12_sorted 368 = .ok (.iload_n 1, 1) := by decide +kernel
theorem dX12_sorted_369 : decode cX12_sorted 369 = .ok (.iload_n 2, 1) := by decide +kernel
theorem dX12_sorted_370 : decode cX12_sorted 370 = .ok (.iastore, 1) := by decide +kernel
theorem dX12_sorted_371 : decode cX12_sorted 371 = .ok (.aload_n 0, 1) := by decide +kernel
theorem dX12_sorted_372 : decode cX12_sorted 372 = .ok (.iconst 1, 1) := by decide +kernel
theorem dX12_sorted_373 : decode cX12_sorted 373 = .ok (.bipush 7, 2) := by decide +kernel
theorem dX12_sorted_375 : decode cX12_sorted 375 = .ok (.invokevirtual 619, 3) := by decide +kernel
theorem dX12_sorted_378 : decode cX12_sorted 378 = .ok (.goto 288, 3) := by decide +kernel
theorem dX12_sorted_381 : decode cX12_sorted 381 = .ok (.iload 4, 2) := by decide +kernel
theorem dX12_sorted_383 : decode cX12_sorted 383 = .ok (.istore 5, 2) := by decide +kernel
theorem dX12_sorted_385 : decode cX12_sorted 385 = .ok (.aload_n 0, 1) := by decide +kernel
theorem dX12_sorted_386 : decode cX12_sorted 386 = .ok (.getfield 104, 3) := by decide +kernel
theorem dX12_sorted_389 : decode cX12_sorted 389 = .ok (.iload_n 1, 1) := by decide +kernel
theorem dX12_sorted_390 : decode cX12_sorted 390 = .ok (.bipush 8, 2) := by decide +kernel
theorem dX12_sorted_392 : decode cX12_sorted 392 = .ok (.iload_n 3, 1) := by decide +kernel
theorem dX12_sorted_393 : decode cX12_sorted 393 = .ok (.imul, 1) := by decide +kernel
theorem dX12_sorted_394 : decode cX12_sorted 394 = .ok (.iload_n 2, 1) := by decide +kernel
theorem dX12_sorted_395 : decode cX12_sorted 395 = .ok (.iadd, 1) := by decide +kernel
theorem dX12_sorted_396 : decode cX12_sorted 396 = .ok (.iastore, 1) := by decide +kernel
theorem dX12_sorted_397 : decode cX12_sorted 397 = .ok (.aload_n 0, 1) := by decide +kernel
theorem dX12_sorted_398 : decode cX12_sorted 398 = .ok (.iconst 2, 1) := by decide +kernel
theorem dX12_sorted_399 : decode cX12_sorted 399 = .ok (.aload_n 0, 1) := by decide +kernel
theorem dX12_sorted_400 : decode cX12_sorted 400 = .ok (.getfield 101, 3) := by decide +kernel
theorem dX12_sorted_403 : decode cX12_sorted 403 = .ok (.iload_n 1, 1) := by decide +kernel
theorem dX12_sorted_404 : decode cX12_sorted 404 = .ok (.iaload, 1) := by decide +kernel
theorem dX12_sorted_405 : decode cX12_sorted 405 = .ok (.sipush 215, 3) := by decide +kernel
theorem dX12_sorted_408 : decode cX12_sorted 408 = .ok (.if_icmp .ne 8, 3) := by decide +kernel
theorem dX12_sorted_411 : decode cX12_sorted 411 = .ok (.bipush 7, 2) := by decide +kernel
theorem dX12_sorted_413 : decode cX12_sorted 413 = .ok (.goto 8, 3) := by decide +kernel
theorem dX12_sorted_416 : decode cX12_sorted 416 = .ok (.iload_n 3, 1) := by decide +kernel
theorem dX12_sorted_417 : decode cX12_sorted 417 = .ok (.iload_n 2, 1) := by decide +kernel
theorem dX12_sorted_418 : decode cX12_sorted 418 = .ok (.invokestatic 626, 3) := by decide +kernel
theorem dX12_sorted_421 : decode cX12_sorted 421 = .ok (.invokevirtual 619, 3) := by decide +kernel
theorem dX12_sorted_424 : decode cX12_sorted 424 = .ok (.goto 242, 3) := by decide +kernel
theorem dX12_sorted_427 : decode cX12_sorted 427 = .ok (.aload_n 0, 1) := by decide +kernel
theorem dX12_sorted_428 : decode cX12_sorted 428 = .ok (.getfield 101, 3) := by decide +kernel
theorem dX12_sorted_431 : decode cX12_sorted 431 = .ok (.iload_n 1, 1) := by decide +kernel
theorem dX12_sorted_432 : decode cX12_sorted 432 = .ok (.iaload, 1) := by decide +kernel
theorem dX12_sorted_433 : decode cX12_sorted 433 = .ok (.istore 6, 2) := by decide +kernel
theorem dX12_sorted_435 : decode cX12_sorted 435 = .ok (.iload 6, 2) := by decide +kernel
theorem dX12_sorted_437 : decode cX12_sorted 437 = .ok (.sipush 189, 3) := by decide +kernel
theorem dX12_sorted_440 : decode cX12_sorted 440 = .ok (.if_icmp .eq 11, 3) := by decide +kernel
theorem dX12_sorted_443 : decode cX12_sorted 443 = .ok (.iload 6, 2) := by decide +kernel
theorem dX12_sorted_445 : decode cX12_sorted 445 = .ok (.sipush 161, 3) := by decide +kernel
theorem dX12_sorted_448 : decode cX12_sorted 448 = .ok (.if_icmp .ne 7, 3) := by decide +kernel
theorem dX12_sorted_451 : decode cX12_sorted 451 = .ok (.iconst 1, 1) := by decide +kernel
theorem dX12_sorted_452 : decode cX12_sorted 452 = .ok (.goto 4, 3) := by decide +kernel
theorem dX12_sorted_455 : decode cX12_sorted 455 = .ok (.iconst 0, 1) := by decide +kernel
theorem dX12_sorted_456 : decode cX12_sorted 456 = .ok (.istore 7, 2) := by decide +kernel
theorem dX12_sorted_458 : decode cX12_sorted 458 = .ok (.iload 4, 2) := by decide +kernel
theorem dX12_sorted_460 : decode cX12_sorted 460 = .ok (.ifCond .ne 16, 3) := by decide +kernel
theorem dX12_sorted_463 : decode cX12_sorted 463 = .ok (.iload 7, 2) := by decide +kernel
theorem dX12_sorted_465 : decode cX12_sorted 465 = .ok (.ifCond .eq 15, 3) := by decide +kernel
theorem dX12_sorted_468 : decode cX12_sorted 468 = .ok (.iload_n 2, 1) := by decide +kernel
theorem dX12_sorted_469 : decode cX12_sorted 469 = .ok (.ifCond .ne 11, 3) := by decide +kernel
theorem dX12_sorted_472 : decode cX12_sorted 472 = .ok (.iload_n 3, 1) := by decide +kernel
theorem dX12_sorted_473 : decode cX12_sorted 473 = .ok (.ifCond .ne 7, 3) := by decide +kernel
theorem dX12_sorted_476 : decode cX12_sorted 476 = .ok (.iconst 1, 1) := by decide +kernel
theorem dX12_sorted_477 : decode cX12_sorted 477 = .ok (.goto 4, 3) := by decide +kernel
theorem dX12_sorted_480 : decode cX12_sorted 480 = .ok (.iconst 0, 1) := by decide +kernel
theorem dX12_sorted_481 : decode cX12_sorted 481 = .ok (.istore 5, 2) := by decide +kernel
theorem dX12_sorted_483 : decode cX12_sorted 483 = .ok (.aload_n 0, 1) := by decide +kernel
theorem dX12_sorted_484 : decode cX12_sorted 484 = .ok (.getfield 104, 3) := by decide +kernel
theorem dX12_sorted_487 : decode cX12_sorted 487 = .ok (.iload_n 1, 1) := by decide +kernel
theorem dX12_sorted_488 : decode cX12_sorted 488 = .ok (.bipush 8, 2) := by decide +kernel
theorem dX12_sorted_490 : decode cX12_sorted 490 = .ok (.iload_n 3, 1) := by decide +kernel
theorem dX12_sorted_491 : decode cX12_sorted 491 = .ok (.imul, 1) := by decide +kernel
theorem dX12_sorted_492 : decode cX12_sorted 492 = .ok (.iload_n 2, 1) := by decide +kernel
theorem dX12_sorted_493 : decode cX12_sorted 493 = .ok (.iadd, 1) := by decide +kernel
theorem dX12_sorted_494 : decode cX12_sorted 494 = .ok (.iastore, 1) := by decide +kernel
theorem dX12_sorted_495 : decode cX12_sorted 495 = .ok (.aload_n 0, 1) := by decide +kernel
theorem dX12_sorted_496 : decode cX12_sorted 496 = .ok (.iconst 2, 1) := by decide +kernel
theorem dX12_sorted_497 : decode cX12_sorted 497 = .ok (.iload 7, 2) := by decide +kernel
theorem dX12_sorted_499 : decode cX12_sorted 499 = .ok (.ifCond .ne 33, 3) := by decide +kernel
theorem dX12_sorted_502 : decode cX12_sorted 502 = .ok (.iload 6, 2) := by decide +kernel
theorem dX12_sorted_504 : decode cX12_sorted 504 = .ok (.bipush 60, 2) := by decide +kernel
theorem dX12_sorted_506 : decode cX12_sorted 506 = .ok (.if_icmp .eq 26, 3) := by decide +kernel
theorem dX12_sorted_509 : decode cX12_sorted 509 = .ok (.iload 6, 2) := by decide +kernel
theorem dX12_sorted_511 : decode cX12_sorted 511 = .ok (.bipush 62, 2) := by decide +kernel
theorem dX12_sorted_513 : decode cX12_sorted 513 = .ok (.if_icmp .eq 19, 3) := by decide +kernel
theorem dX12_sorted_516 : decode cX12_sorted 516 = .ok (.iload 6, 2) := by decide +kernel
theorem dX12_sorted_518 : decode cX12_sorted 518 = .ok (.sipush 188, 3) := by decide +kernel
theorem dX12_sorted_521 : decode cX12_sorted 521 = .ok (.if_icmp .eq 11, 3) := by decide +kernel
theorem dX12_sorted_524 : decode cX12_sorted 524 = .ok (.iload 6, 2) := by decide +kernel
theorem dX12_sorted_526 : decode cX12_sorted 526 = .ok (.sipush 190, 3) := by decide +kernel
theorem dX12_sorted_529 : decode cX12_sorted 529 = .ok (.if_icmp .ne 7, 3) := by decide +kernel
theorem dX12_sorted_532 : decode cX12_sorted 532 = .ok (.iconst 0, 1) := by decide +kernel
theorem dX12_sorted_533 : decode cX12_sorted 533 = .ok (.goto 8, 3) := by decide +kernel
theorem dX12_sorted_536 : decode cX12_sorted 536 = .ok (.iload_n 3, 1) := by decide +kernel
theorem dX12_sorted_537 : decode cX12_sorted 537 = .ok (.iload_n 2, 1) := by decide +kernel
theorem dX12_sorted_538 : decode cX12_sorted 538 = .ok (.invokestatic 626, 3) := by decide +kernel
theorem dX12_sorted_541 : decode cX12_sorted 541 = .ok (.invokevirtual 619, 3) := by decide +kernel
theorem dX12_sorted_544 : decode cX12_sorted 544 = .ok (.goto 122, 3) := by decide +kernel
theorem dX12_sorted_547 : decode cX12_sorted 547 = .ok (.iload_n 2, 1) := by decide +kernel
theorem dX12_sorted_548 : decode cX12_sorted 548 = .ok (.ifCond .ne 11, 3) := by decide +kernel
theorem dX12_sorted_551 : decode cX12_sorted 551 = .ok (.iload_n 3, 1) := by decide +kernel
theorem dX12_sorted_552 : decode cX12_sorted 552 = .ok (.ifCond .ne 7, 3) := by decide +kernel
theorem dX12_sorted_555 : decode cX12_sorted 555 = .ok (.iconst 1, 1) := by decide +kernel
theorem dX12_sorted_556 : decode cX12_sorted 556 = .ok (.goto 4, 3) := by decide +kernel
theorem dX12_sorted_559 : decode cX12_sorted 559 = .ok (.iconst 0, 1) := by decide +kernel
theorem dX12_sorted_560 : decode cX12_sorted 560 = .ok (.istore 5, 2) := by decide +kernel
theorem dX12_sorted_562 : decode cX12_sorted 562 = .ok (.aload_n 0, 1) := by decide +kernel
theorem dX12_sorted_563 : decode cX12_sorted 563 = .ok (.iconst 2, 1) := by decide +kernel
theorem dX12_sorted_564 : decode cX12_sorted 564 = .ok (.iconst 0, 1) := by decide +kernel
theorem dX12_sorted_565 : decode cX12_sorted 565 = .ok (.invokevirtual 619, 3) := by decide +kernel
theorem dX12_sorted_568 : decode cX12_sorted 568 = .ok (.goto 98, 3) := by decide +kernel
theorem dX12_sorted_571 : decode cX12_sorted 571 = .ok (.aload_n 0, 1) := by decide +kernel
theorem dX12_sorted_572 : decode cX12_sorted 572 = .ok (.getfield 229, 3) := by decide +kernel
theorem dX12_sorted_575 : decode cX12_sorted 575 = .ok (.aload_n 0, 1) := by decide +kernel
theorem dX12_sorted_576 : decode cX12_sorted 576 = .ok (.getfield 232, 3) := by decide +kernel
theorem dX12_sorted_579 : decode cX12_sorted 579 = .ok (.iconst 3, 1) := by decide +kernel
theorem dX12_sorted_580 : decode cX12_sorted 580 = .ok (.isub, 1) := by decide +kernel
theorem dX12_sorted_581 : decode cX12_sorted 581 = .ok (.iaload, 1) := by decide +kernel
theorem dX12_sorted_582 : decode cX12_sorted 582 = .ok (.istore 6, 2) := by decide +kernel
theorem dX12_sorted_584 : decode cX12_sorted 584 = .ok (.iload 6, 2) := by decide +kernel
theorem dX12_sorted_586 : decode cX12_sorted 586 = .ok (.ifCond .ne 20, 3) := by decide +kernel
theorem dX12_sorted_589 : decode cX12_sorted 589 = .ok (.iload 4, 2) := by decide +kernel
theorem dX12_sorted_591 : decode cX12_sorted 591 = .ok (.ifCond .ne 11, 3) := by decide +kernel
theorem dX12_sorted_594 : decode cX12_sorted 594 = .ok (.iload_n 2, 1) := by decide +kernel
theorem dX12_sorted_595 : decode cX12_sorted 595 = .ok (.ifCond .ne 11, 3) := by decide +kernel
theorem dX12_sorted_598 : decode cX12_sorted 598 = .ok (.iload_n 3, 1) := by decide +kernel
theorem dX12_sorted_599 : decode cX12_sorted 599 = .ok (.ifCond .ne 7, 3) := by decide +kernel
theorem dX12_sorted_602 : decode cX12_sorted 602 = .ok (.iconst 1, 1) := by decide +kernel
theorem dX12_sorted_603 : decode cX12_sorted 603 = .ok (.goto 4, 3) := by decide +kernel
theorem dX12_sorted_606 : decode cX12_sorted 606 = .ok (.iconst 0, 1) := by decide +kernel
theorem dX12_sorted_607 : decode cX12_sorted 607 = .ok (.istore 5, 2) := by decide +kernel
theorem dX12_sorted_609 : decode cX12_sorted 609 = .ok (.iload 4, 2) := by decide +kernel
theorem dX12_sorted_611 : decode cX12_sorted 611 = .ok (.ifCond .eq 11, 3) := by decide +kernel
theorem dX12_sorted_614 : decode cX12_sorted 614 = .ok (.iload_n 3, 1) := by decide +kernel
theorem dX12_sorted_615 : decode cX12_sorted 615 = .ok (.iload_n 2, 1) := by decide +kernel
theorem dX12_sorted_616 : decode cX12_sorted 616 = .ok (.invokestatic 626, 3) := by decide +kernel
theorem dX12_sorted_619 : decode cX12_sorted 619 = .ok (.goto 4, 3) := by decide +kernel
theorem dX12_sorted_622 : decode cX12_sorted 622 = .ok (.iconst 0, 1) := by decide +kernel
theorem dX12_sorted_623 : decode cX12_sorted 623 = .ok (.istore 7, 2) := by decide +kernel
theorem dX12_sorted_625 : decode cX12_sorted 625 = .ok (.aload_n 0, 1) := by decide +kernel
theorem dX12_sorted_626 : decode cX12_sorted 626 = .ok (.getfield 104, 3) := by decide +kernel
theorem dX12_sorted_629 : decode cX12_sorted 629 = .ok (.iload_n 1, 1) := by decide +kernel
theorem dX12_sorted_630 : decode cX12_sorted 630 = .ok (.bipush 8, 2) := by decide +kernel
theorem dX12_sorted_632 : decode cX12_sorted 632 = .ok (.iload_n 2, 1) := by decide +kernel
theorem dX12_sorted_633 : decode cX12_sorted 633 = .ok (.imul, 1) := by decide +kernel
theorem dX12_sorted_634 : decode cX12_sorted 634 = .ok (.iload 7, 2) := by decide +kernel
theorem dX12_sorted_636 : decode cX12_sorted 636 = .ok (.iadd, 1) := by decide +kernel
theorem dX12_sorted_637 : decode cX12_sorted 637 = .ok (.iastore, 1) := by decide +kernel
theorem dX12_sorted_638 : decode cX12_sorted 638 = .ok (.aload_n 0, 1) := by decide +kernel
theorem dX12_sorted_639 : decode cX12_sorted 639 = .ok (.getfield 104, 3) := by decide +kernel
theorem dX12_sorted_642 : decode cX12_sorted 642 = .ok (.aload_n 0, 1) := by decide +kernel
theorem dX12_sorted_643 : decode cX12_sorted 643 = .ok (.getfield 101, 3) := by decide +kernel
theorem dX12_sorted_646 : decode cX12_sorted 646 = .ok (.iload_n 1, 1) := by decide +kernel
theorem dX12_sorted_647 : decode cX12_sorted 647 = .ok (.iaload, 1) := by decide +kernel
theorem dX12_sorted_648 : decode cX12_sorted 648 = .ok (.bipush 8, 2) := by decide +kernel
theorem dX12_sorted_650 : decode cX12_sorted 650 = .ok (.iload_n 3, 1) := by decide +kernel
theorem dX12_sorted_651 : decode cX12_sorted 651 = .ok (.imul, 1) := by decide +kernel
theorem dX12_sorted_652 : decode cX12_sorted 652 = .ok (.iload 7, 2) := by decide +kernel
theorem dX12_sorted_654 : decode cX12_sorted 654 = .ok (.iadd, 1) := by decide +kernel
theorem dX12_sorted_655 : decode cX12_sorted 655 = .ok (.iastore, 1) := by decide +kernel
theorem dX12_sorted_656 : decode cX12_sorted 656 = .ok (.aload_n 0, 1) := by decide +kernel
theorem dX12_sorted_657 : decode cX12_sorted 657 = .ok (.iconst 3, 1) := by decide +kernel
theorem dX12_sorted_658 : decode cX12_sorted 658 = .ok (.iload 7, 2) := by decide +kernel
theorem dX12_sorted_660 : decode cX12_sorted 660 = .ok (.invokevirtual 619, 3) := by decide +kernel
theorem dX12_sorted_663 : decode cX12_sorted 663 = .ok (.goto 3, 3) := by decide +kernel
theorem dX12_sorted_666 : decode cX12_sorted 666 = .ok (.iload 5, 2) := by decide +kernel
theorem dX12_sorted_668 : decode cX12_sorted 668 = .ok (.ifCond .ne 15, 3) := by decide +kernel
theorem dX12_sorted_671 : decode cX12_sorted 671 = .ok (.aload_n 0, 1) := by decide +kernel
theorem dX12_sorted_672 : decode cX12_sorted 672 = .ok (.iconst 4, 1) := by decide +kernel
theorem dX12_sorted_673 : decode cX12_sorted 673 = .ok (.aload_n 0, 1) := by decide +kernel
theorem dX12_sorted_674 : decode cX12_sorted 674 = .ok (.getfield 107, 3) := by decide +kernel
theorem dX12_sorted_677 : decode cX12_sorted 677 = .ok (.iload_n 1, 1) := by decide +kernel
theorem dX12_sorted_678 : decode cX12_sorted 678 = .ok (.iaload, 1) := by decide +kernel
theorem dX12_sorted_679 : decode cX12_sorted 679 = .ok (.invokevirtual 537, 3) := by decide +kernel
theorem dX12_sorted_682 : decode cX12_sorted 682 = .ok (.ireturn, 1) := by decide +kernel
theorem dX12_sorted_683 : decode cX12_sorted 683 = .ok (.iconst 1, 1) := by decide +kernel
theorem dX12_sorted_684 : decode cX12_sorted 684 = .ok (.ireturn, 1) := by decide +kernel
abbrev R_X12_sorted : Room := ({ frames := 1, cells := 0, slots := 0, locals := 22 } : Room)
def b_X12_sorted_666 (gT : Gs) (v1 : Int32) (v5 : Int32) : Option (Int32 × Gs) :=
  if v5 = 0 then (grd (inB v1 8000) (bnd (f_X12_fault gT (4 : Int32) (gIA gT 17 v1.toNatClampNeg)) (fun q_8 => grd (zB q_8.1) (some (q_8.1, q_8.2))))) else (some ((1 : Int32), gT))
def b_X12_sorted_234 (gT : Gs) (v1 : Int32) (v2 : Int32) (s0 : Int32) : Option (Int32 × Gs) :=
  grd (inB v1 8000) (bnd (f_X12_gives (sIA gT 16 (upd (gIA gT 16) v1.toNatClampNeg v2)) (1 : Int32) (7 : Int32)) (fun q_26 => b_X12_sorted_666 q_26 v1 s0))
def b_X12_sorted_233 (gT : Gs) (v1 : Int32) (v2 : Int32) : Option (Int32 × Gs) :=
  b_X12_sorted_234 gT v1 v2 (0 : Int32)
def b_X12_sorted_278 (gT : Gs) (v1 : Int32) (v5 : Int32) (s0 : Int32) (s1 : Int32) : Option (Int32 × Gs) :=
  bnd (f_X12_gives gT s1 s0) (fun q_31 => b_X12_sorted_666 q_31 v1 v5)
def b_X12_sorted_293 (gT : Gs) (v1 : Int32) (s0 : Int32) : Option (Int32 × Gs) :=
  bnd (f_X12_gives gT (1 : Int32) (0 : Int32)) (fun q_33 => b_X12_sorted_666 q_33 v1 s0)
def b_X12_sorted_335 (gT : Gs) (v1 : Int32) (v2 : Int32) (s0 : Int32) : Option (Int32 × Gs) :=
  grd (inB v1 8000) (grd (inB v1 8000) (bnd (f_X12_gives (sIA gT 16 (upd (gIA gT 16) v1.toNatClampNeg v2)) (1 : Int32) (gIA gT 15 v1.toNatClampNeg)) (fun q_38 => b_X12_sorted_666 q_38 v1 s0)))
def b_X12_sorted_327 (gT : Gs) (v1 : Int32) (v2 : Int32) (s0 : Int32) (s1 : Int32) : Option (Int32 × Gs) :=
  if s1 = s0 then (b_X12_sorted_335 gT v1 v2 (1 : Int32)) else (b_X12_sorted_335 gT v1 v2 (0 : Int32))
def b_X12_sorted_313 (gT : Gs) (v1 : Int32) (v2 : Int32) (s0 : Int32) : Option (Int32 × Gs) :=
  grd (inB v1 8000) (if (gIA gT 15 v1.toNatClampNeg) = 0 then (b_X12_sorted_327 gT v1 v2 (1 : Int32) s0) else (b_X12_sorted_327 gT v1 v2 (0 : Int32) s0))
def b_X12_sorted_421 (gT : Gs) (v1 : Int32) (v5 : Int32) (s0 : Int32) (s1 : Int32) : Option (Int32 × Gs) :=
  bnd (f_X12_gives gT s1 s0) (fun q_49 => b_X12_sorted_666 q_49 v1 v5)
def b_X12_sorted_541 (gT : Gs) (v1 : Int32) (v5 : Int32) (s0 : Int32) (s1 : Int32) : Option (Int32 × Gs) :=
  bnd (f_X12_gives gT s1 s0) (fun q_53 => b_X12_sorted_666 q_53 v1 v5)
def b_X12_sorted_532 (gT : Gs) (v1 : Int32) (v5 : Int32) (s0 : Int32) : Option (Int32 × Gs) :=
  b_X12_sorted_541 gT v1 v5 (0 : Int32) s0
def b_X12_sorted_481 (gT : Gs) (v1 : Int32) (v2 : Int32) (v3 : Int32) (v6 : Int32) (v7 : Int32) (s0 : Int32) : Option (Int32 × Gs) :=
  grd (inB v1 8000) (if v7 = 0 then (if v6 = (60 : Int32) then (b_X12_sorted_532 (sIA gT 16 (upd (gIA gT 16) v1.toNatClampNeg (((8 : Int32) * v3) + v2))) v1 s0 (2 : Int32)) else (if v6 = (62 : Int32) then (b_X12_sorted_532 (sIA gT 16 (upd (gIA gT 16) v1.toNatClampNeg (((8 : Int32) * v3) + v2))) v1 s0 (2 : Int32)) else (if v6 = (188 : Int32) then (b_X12_sorted_532 (sIA gT 16 (upd (gIA gT 16) v1.toNatClampNeg (((8 : Int32) * v3) + v2))) v1 s0 (2 : Int32)) else (if v6 = (190 : Int32) then (b_X12_sorted_532 (sIA gT 16 (upd (gIA gT 16) v1.toNatClampNeg (((8 : Int32) * v3) + v2))) v1 s0 (2 : Int32)) else (bnd (f_X12_joined v3 v2) (fun q_55 => b_X12_sorted_541 (sIA gT 16 (upd (gIA gT 16) v1.toNatClampNeg (((8 : Int32) * v3) + v2))) v1 s0 q_55 (2 : Int32))))))) else (b_X12_sorted_532 (sIA gT 16 (upd (gIA gT 16) v1.toNatClampNeg (((8 : Int32) * v3) + v2))) v1 s0 (2 : Int32)))
def b_X12_sorted_476 (gT : Gs) (v1 : Int32) (v2 : Int32) (v3 : Int32) (v6 : Int32) (v7 : Int32) : Option (Int32 × Gs) :=
  b_X12_sorted_481 gT v1 v2 v3 v6 v7 (1 : Int32)
def b_X12_sorted_480 (gT : Gs) (v1 : Int32) (v2 : Int32) (v3 : Int32) (v6 : Int32) (v7 : Int32) : Option (Int32 × Gs) :=
  b_X12_sorted_481 gT v1 v2 v3 v6 v7 (0 : Int32)
def b_X12_sorted_456 (gT : Gs) (v1 : Int32) (v2 : Int32) (v3 : Int32) (v4 : Int32) (v6 : Int32) (s0 : Int32) : Option (Int32 × Gs) :=
  if v4 = 0 then (if s0 = 0 then (b_X12_sorted_480 gT v1 v2 v3 v6 s0) else (if v2 = 0 then (if v3 = 0 then (b_X12_sorted_476 gT v1 v2 v3 v6 s0) else (b_X12_sorted_480 gT v1 v2 v3 v6 s0)) else (b_X12_sorted_480 gT v1 v2 v3 v6 s0))) else (b_X12_sorted_476 gT v1 v2 v3 v6 s0)
def b_X12_sorted_451 (gT : Gs) (v1 : Int32) (v2 : Int32) (v3 : Int32) (v4 : Int32) (v6 : Int32) : Option (Int32 × Gs) :=
  b_X12_sorted_456 gT v1 v2 v3 v4 v6 (1 : Int32)
def b_X12_sorted_560 (gT : Gs) (v1 : Int32) (s0 : Int32) : Option (Int32 × Gs) :=
  bnd (f_X12_gives gT (2 : Int32) (0 : Int32)) (fun q_57 => b_X12_sorted_666 q_57 v1 s0)
def b_X12_sorted_559 (gT : Gs) (v1 : Int32) : Option (Int32 × Gs) :=
  b_X12_sorted_560 gT v1 (0 : Int32)
def b_X12_sorted_623 (gT : Gs) (v1 : Int32) (v2 : Int32) (v3 : Int32) (v5 : Int32) (s0 : Int32) : Option (Int32 × Gs) :=
  grd (inB v1 8000) (grd (inB v1 8000) (grd (inB (gIA gT 15 v1.toNatClampNeg) 8000) (bnd (f_X12_gives (sIA (sIA gT 16 (upd (gIA gT 16) v1.toNatClampNeg (((8 : Int32) * v2) + s0))) 16 (upd (upd (gIA gT 16) v1.toNatClampNeg (((8 : Int32) * v2) + s0)) (gIA gT 15 v1.toNatClampNeg).toNatClampNeg (((8 : Int32) * v3) + s0))) (3 : Int32) s0) (fun q_63 => b_X12_sorted_666 q_63 v1 v5))))
def b_X12_sorted_607 (gT : Gs) (v1 : Int32) (v2 : Int32) (v3 : Int32) (v4 : Int32) (s0 : Int32) : Option (Int32 × Gs) :=
  if v4 = 0 then (b_X12_sorted_623 gT v1 v2 v3 s0 (0 : Int32)) else (bnd (f_X12_joined v3 v2) (fun q_65 => b_X12_sorted_623 gT v1 v2 v3 s0 q_65))
def b_X12_sorted_606 (gT : Gs) (v1 : Int32) (v2 : Int32) (v3 : Int32) (v4 : Int32) : Option (Int32 × Gs) :=
  b_X12_sorted_607 gT v1 v2 v3 v4 (0 : Int32)
def b_X12_sorted_602 (gT : Gs) (v1 : Int32) (v2 : Int32) (v3 : Int32) (v4 : Int32) : Option (Int32 × Gs) :=
  b_X12_sorted_607 gT v1 v2 v3 v4 (1 : Int32)
def b_X12_sorted_66 (gT : Gs) (v1 : Int32) (v2 : Int32) (v3 : Int32) (s0 : Int32) : Option (Int32 × Gs) :=
  grd (inB v1 8000) (if (gIA gT 14 v1.toNatClampNeg) = (1 : Int32) then (grd (inB v1 8000) (bnd (f_X12_gives gT (0 : Int32) (gIA gT 15 v1.toNatClampNeg)) (fun q_5 => b_X12_sorted_666 q_5 v1 (1 : Int32)))) else (if (gIA gT 14 v1.toNatClampNeg) = (2 : Int32) then (bnd (f_X12_gives gT (0 : Int32) (5 : Int32)) (fun q_11 => b_X12_sorted_666 q_11 v1 (1 : Int32))) else (if (gIA gT 14 v1.toNatClampNeg) = (3 : Int32) then (bnd (f_X12_gives gT (0 : Int32) (7 : Int32)) (fun q_13 => b_X12_sorted_666 q_13 v1 (1 : Int32))) else (if (gIA gT 14 v1.toNatClampNeg) = (4 : Int32) then (grd (inB v1 8000) (bnd (f_X12_sortOf gT (gIA gT 15 v1.toNatClampNeg)) (fun q_16 => bnd (f_X12_gives gT (0 : Int32) q_16) (fun q_18 => b_X12_sorted_666 q_18 v1 (1 : Int32))))) else (if (gIA gT 14 v1.toNatClampNeg) = (5 : Int32) then (grd (inB v1 8000) (bnd (f_X12_sortOf gT (gIA gT 15 v1.toNatClampNeg)) (fun q_21 => bnd (f_X12_gives gT (0 : Int32) q_21) (fun q_23 => b_X12_sorted_666 q_23 v1 (1 : Int32))))) else (if (gIA gT 14 v1.toNatClampNeg) = (6 : Int32) then (if v2 < (1 : Int32) then (b_X12_sorted_233 gT v1 v2) else (if (4 : Int32) < v2 then (b_X12_sorted_233 gT v1 v2) else (b_X12_sorted_234 gT v1 v2 (1 : Int32)))) else (if (gIA gT 14 v1.toNatClampNeg) = (7 : Int32) then (bnd (f_X12_isNumber v2) (fun q_28 => grd (inB v1 8000) (if (4 : Int32) ≤ v2 then (b_X12_sorted_278 (sIA gT 16 (upd (gIA gT 16) v1.toNatClampNeg v2)) v1 q_28 v2 (1 : Int32)) else (b_X12_sorted_278 (sIA gT 16 (upd (gIA gT 16) v1.toNatClampNeg v2)) v1 q_28 (4 : Int32) (1 : Int32))))) else (if (gIA gT 14 v1.toNatClampNeg) = (8 : Int32) then (if v2 = 0 then (b_X12_sorted_293 gT v1 (1 : Int32)) else (b_X12_sorted_293 gT v1 (0 : Int32))) else (if (gIA gT 14 v1.toNatClampNeg) = (9 : Int32) then (if v2 = 0 then (b_X12_sorted_313 gT v1 v2 (1 : Int32)) else (b_X12_sorted_313 gT v1 v2 (0 : Int32))) else (if (gIA gT 14 v1.toNatClampNeg) = (10 : Int32) then (bnd (f_X12_isNumber v2) (fun q_40 => grd (inB v1 8000) (bnd (f_X12_gives (sIA gT 16 (upd (gIA gT 16) v1.toNatClampNeg v2)) (1 : Int32) (7 : Int32)) (fun q_43 => b_X12_sorted_666 q_43 v1 q_40)))) else (if (gIA gT 14 v1.toNatClampNeg) = (11 : Int32) then (grd (inB v1 8000) (grd (inB v1 8000) (if (gIA gT 15 v1.toNatClampNeg) = (215 : Int32) then (b_X12_sorted_421 (sIA gT 16 (upd (gIA gT 16) v1.toNatClampNeg (((8 : Int32) * v3) + v2))) v1 s0 (7 : Int32) (2 : Int32)) else (bnd (f_X12_joined v3 v2) (fun q_47 => b_X12_sorted_421 (sIA gT 16 (upd (gIA gT 16) v1.toNatClampNeg (((8 : Int32) * v3) + v2))) v1 s0 q_47 (2 : Int32)))))) else (if (gIA gT 14 v1.toNatClampNeg) = (12 : Int32) then (grd (inB v1 8000) (if (gIA gT 15 v1.toNatClampNeg) = (189 : Int32) then (b_X12_sorted_451 gT v1 v2 v3 s0 (gIA gT 15 v1.toNatClampNeg)) else (if (gIA gT 15 v1.toNatClampNeg) = (161 : Int32) then (b_X12_sorted_451 gT v1 v2 v3 s0 (gIA gT 15 v1.toNatClampNeg)) else (b_X12_sorted_456 gT v1 v2 v3 s0 (gIA gT 15 v1.toNatClampNeg) (0 : Int32))))) else (if (gIA gT 14 v1.toNatClampNeg) = (13 : Int32) then (b_X12_sorted_666 gT v1 (1 : Int32)) else (if (gIA gT 14 v1.toNatClampNeg) = (14 : Int32) then (if v2 = 0 then (if v3 = 0 then (b_X12_sorted_560 gT v1 (1 : Int32)) else (b_X12_sorted_559 gT v1)) else (b_X12_sorted_559 gT v1)) else (if (gIA gT 14 v1.toNatClampNeg) = (15 : Int32) then (b_X12_sorted_666 gT v1 (1 : Int32)) else (if (gIA gT 14 v1.toNatClampNeg) = (16 : Int32) then (if v2 = 0 then (if v3 = 0 then (b_X12_sorted_560 gT v1 (1 : Int32)) else (b_X12_sorted_559 gT v1)) else (b_X12_sorted_559 gT v1)) else (if (gIA gT 14 v1.toNatClampNeg) = (17 : Int32) then (b_X12_sorted_666 gT v1 (1 : Int32)) else (if (gIA gT 14 v1.toNatClampNeg) = (18 : Int32) then (b_X12_sorted_666 gT v1 (1 : Int32)) else (if (gIA gT 14 v1.toNatClampNeg) = (19 : Int32) then (grd (inB ((gI gT 58) - (3 : Int32)) 400) (if (gIA gT 57 ((gI gT 58) - (3 : Int32)).toNatClampNeg) = 0 then (if s0 = 0 then (if v2 = 0 then (if v3 = 0 then (b_X12_sorted_602 gT v1 v2 v3 s0) else (b_X12_sorted_606 gT v1 v2 v3 s0)) else (b_X12_sorted_606 gT v1 v2 v3 s0)) else (b_X12_sorted_602 gT v1 v2 v3 s0)) else (b_X12_sorted_606 gT v1 v2 v3 s0))) else (b_X12_sorted_666 gT v1 (1 : Int32)))))))))))))))))))))
def b_X12_sorted_65 (gT : Gs) (v1 : Int32) (v2 : Int32) (v3 : Int32) : Option (Int32 × Gs) :=
  b_X12_sorted_66 gT v1 v2 v3 (0 : Int32)
def b_X12_sorted_46 (gT : Gs) (v1 : Int32) (v2 : Int32) (s0 : Int32) : Option (Int32 × Gs) :=
  bnd (f_X12_isNumber v2) (fun q_1 => if q_1 = 0 then (b_X12_sorted_65 gT v1 v2 s0) else (bnd (f_X12_isNumber s0) (fun q_67 => if q_67 = 0 then (b_X12_sorted_65 gT v1 v2 s0) else (b_X12_sorted_66 gT v1 v2 s0 (1 : Int32)))))
def b_X12_sorted_22 (gT : Gs) (v1 : Int32) (s0 : Int32) : Option (Int32 × Gs) :=
  if (gI gT 58) ≤ (1 : Int32) then (b_X12_sorted_46 gT v1 s0 (0 : Int32)) else (grd (inB ((gI gT 58) - (2 : Int32)) 400) (b_X12_sorted_46 gT v1 s0 (gIA gT 57 ((gI gT 58) - (2 : Int32)).toNatClampNeg)))
def f_X12_sorted (gT : Gs) (x0 : Int32) : Option (Int32 × Gs) :=
  if (gI gT 58) ≤ 0 then (b_X12_sorted_22 gT x0 (0 : Int32)) else (grd (inB ((gI gT 58) - (1 : Int32)) 400) (b_X12_sorted_22 gT x0 (gIA gT 57 ((gI gT 58) - (1 : Int32)).toNatClampNeg)))
def S_X12_sorted_666 (l : Launch) (D : Dx) (hT : Nat) (aT : Nat → Nat) (yT : Nat → ClassId) (fn : Gs → Int32 → Int32 → Option (Int32 × Gs)) : Prop :=
  ∀ {p : Program} {e : Env} {s : State} {m : MethodId} {args : Array Value} {below : List Frame} {meth : Method} {c : Code} {H : Heap} {locs : List Loc} {A : Nat → Prop} {ls : Array Slot} {gT : Gs} {v1 : Int32} {v5 : Int32} {q : Int32 × Gs}, Cx p s m args meth c cX12_sorted (some .boolean) 8 RX12 lw_all → Hx D (tX12 yT) A s H locs (wX12 hT aT yT gT) → lv_has ls 8 [(0, .ref hT), (1, .int v1), (5, .int v5)] → fn gT v1 v5 = some q → W p l e R_X12_sorted s m args below meth c H locs 0 0 (MQ below (QI D A (wX12 hT aT yT q.2) q.1) args s 0 0 A) (F0 m 666 ls [])
def S_X12_sorted_234 (l : Launch) (D : Dx) (hT : Nat) (aT : Nat → Nat) (yT : Nat → ClassId) (fn : Gs → Int32 → Int32 → Int32 → Option (Int32 × Gs)) : Prop :=
  ∀ {p : Program} {e : Env} {s : State} {m : MethodId} {args : Array Value} {below : List Frame} {meth : Method} {c : Code} {H : Heap} {locs : List Loc} {A : Nat → Prop} {ls : Array Slot} {gT : Gs} {v1 : Int32} {v2 : Int32} {s0 : Int32} {q : Int32 × Gs}, Cx p s m args meth c cX12_sorted (some .boolean) 8 RX12 lw_all → Hx D (tX12 yT) A s H locs (wX12 hT aT yT gT) → lv_has ls 8 [(0, .ref hT), (1, .int v1), (2, .int v2)] → fn gT v1 v2 s0 = some q → W p l e R_X12_sorted s m args below meth c H locs 0 0 (MQ below (QI D A (wX12 hT aT yT q.2) q.1) args s 0 0 A) (F0 m 234 ls [.int s0])
def S_X12_sorted_233 (l : Launch) (D : Dx) (hT : Nat) (aT : Nat → Nat) (yT : Nat → ClassId) (fn : Gs → Int32 → Int32 → Option (Int32 × Gs)) : Prop :=
  ∀ {p : Program} {e : Env} {s : State} {m : MethodId} {args : Array Value} {below : List Frame} {meth : Method} {c : Code} {H : Heap} {locs : List Loc} {A : Nat → Prop} {ls : Array Slot} {gT : Gs} {v1 : Int32} {v2 : Int32} {q : Int32 × Gs}, Cx p s m args meth c cX12_sorted (some .boolean) 8 RX12 lw_all → Hx D (tX12 yT) A s H locs (wX12 hT aT yT gT) → lv_has ls 8 [(0, .ref hT), (1, .int v1), (2, .int v2)] → fn gT v1 v2 = some q → W p l e R_X12_sorted s m args below meth c H locs 0 0 (MQ below (QI D A (wX12 hT aT yT q.2) q.1) args s 0 0 A) (F0 m 233 ls [])
def S_X12_sorted_278 (l : Launch) (D : Dx) (hT : Nat) (aT : Nat → Nat) (yT : Nat → ClassId) (fn : Gs → Int32 → Int32 → Int32 → Int32 → Option (Int32 × Gs)) : Prop :=
  ∀ {p : Program} {e : Env} {s : State} {m : MethodId} {args : Array Value} {below : List Frame} {meth : Method} {c : Code} {H : Heap} {locs : List Loc} {A : Nat → Prop} {ls : Array Slot} {gT : Gs} {v1 : Int32} {v5 : Int32} {s0 : Int32} {s1 : Int32} {q : Int32 × Gs}, Cx p s m args meth c cX12_sorted (some .boolean) 8 RX12 lw_all → Hx D (tX12 yT) A s H locs (wX12 hT aT yT gT) → lv_has ls 8 [(0, .ref hT), (1, .int v1), (5, .int v5)] → fn gT v1 v5 s0 s1 = some q → W p l e R_X12_sorted s m args below meth c H locs 0 0 (MQ below (QI D A (wX12 hT aT yT q.2) q.1) args s 0 0 A) (F0 m 278 ls [.int s0, .int s1, .ref hT])
def S_X12_sorted_293 (l : Launch) (D : Dx) (hT : Nat) (aT : Nat → Nat) (yT : Nat → ClassId) (fn : Gs → Int32 → Int32 → Option (Int32 × Gs)) : Prop :=
  ∀ {p : Program} {e : Env} {s : State} {m : MethodId} {args : Array Value} {below : List Frame} {meth : Method} {c : Code} {H : Heap} {locs : List Loc} {A : Nat → Prop} {ls : Array Slot} {gT : Gs} {v1 : Int32} {s0 : Int32} {q : Int32 × Gs}, Cx p s m args meth c cX12_sorted (some .boolean) 8 RX12 lw_all → Hx D (tX12 yT) A s H locs (wX12 hT aT yT gT) → lv_has ls 8 [(0, .ref hT), (1, .int v1)] → fn gT v1 s0 = some q → W p l e R_X12_sorted s m args below meth c H locs 0 0 (MQ below (QI D A (wX12 hT aT yT q.2) q.1) args s 0 0 A) (F0 m 293 ls [.int s0])
def S_X12_sorted_335 (l : Launch) (D : Dx) (hT : Nat) (aT : Nat → Nat) (yT : Nat → ClassId) (fn : Gs → Int32 → Int32 → Int32 → Option (Int32 × Gs)) : Prop :=
  ∀ {p : Program} {e : Env} {s : State} {m : MethodId} {args : Array Value} {below : List Frame} {meth : Method} {c : Code} {H : Heap} {locs : List Loc} {A : Nat → Prop} {ls : Array Slot} {gT : Gs} {v1 : Int32} {v2 : Int32} {s0 : Int32} {q : Int32 × Gs}, Cx p s m args meth c cX12_sorted (some .boolean) 8 RX12 lw_all → Hx D (tX12 yT) A s H locs (wX12 hT aT yT gT) → lv_has ls 8 [(0, .ref hT), (1, .int v1), (2, .int v2)] → fn gT v1 v2 s0 = some q → W p l e R_X12_sorted s m args below meth c H locs 0 0 (MQ below (QI D A (wX12 hT aT yT q.2) q.1) args s 0 0 A) (F0 m 335 ls [.int s0])
def S_X12_sorted_327 (l : Launch) (D : Dx) (hT : Nat) (aT : Nat → Nat) (yT : Nat → ClassId) (fn : Gs → Int32 → Int32 → Int32 → Int32 → Option (Int32 × Gs)) : Prop :=
  ∀ {p : Program} {e : Env} {s : State} {m : MethodId} {args : Array Value} {below : List Frame} {meth : Method} {c : Code} {H : Heap} {locs : List Loc} {A : Nat → Prop} {ls : Array Slot} {gT : Gs} {v1 : Int32} {v2 : Int32} {s0 : Int32} {s1 : Int32} {q : Int32 × Gs}, Cx p s m args meth c cX12_sorted (some .boolean) 8 RX12 lw_all → Hx D (tX12 yT) A s H locs (wX12 hT aT yT gT) → lv_has ls 8 [(0, .ref hT), (1, .int v1), (2, .int v2)] → fn gT v1 v2 s0 s1 = some q → W p l e R_X12_sorted s m args below meth c H locs 0 0 (MQ below (QI D A (wX12 hT aT yT q.2) q.1) args s 0 0 A) (F0 m 327 ls [.int s0, .int s1])
def S_X12_sorted_313 (l : Launch) (D : Dx) (hT : Nat) (aT : Nat → Nat) (yT : Nat → ClassId) (fn : Gs → Int32 → Int32 → Int32 → Option (Int32 × Gs)) : Prop :=
  ∀ {p : Program} {e : Env} {s : State} {m : MethodId} {args : Array Value} {below : List Frame} {meth : Method} {c : Code} {H : Heap} {locs : List Loc} {A : Nat → Prop} {ls : Array Slot} {gT : Gs} {v1 : Int32} {v2 : Int32} {s0 : Int32} {q : Int32 × Gs}, Cx p s m args meth c cX12_sorted (some .boolean) 8 RX12 lw_all → Hx D (tX12 yT) A s H locs (wX12 hT aT yT gT) → lv_has ls 8 [(0, .ref hT), (1, .int v1), (2, .int v2)] → fn gT v1 v2 s0 = some q → W p l e R_X12_sorted s m args below meth c H locs 0 0 (MQ below (QI D A (wX12 hT aT yT q.2) q.1) args s 0 0 A) (F0 m 313 ls [.int s0])
def S_X12_sorted_421 (l : Launch) (D : Dx) (hT : Nat) (aT : Nat → Nat) (yT : Nat → ClassId) (fn : Gs → Int32 → Int32 → Int32 → Int32 → Option (Int32 × Gs)) : Prop :=
  ∀ {p : Program} {e : Env} {s : State} {m : MethodId} {args : Array Value} {below : List Frame} {meth : Method} {c : Code} {H : Heap} {locs : List Loc} {A : Nat → Prop} {ls : Array Slot} {gT : Gs} {v1 : Int32} {v5 : Int32} {s0 : Int32} {s1 : Int32} {q : Int32 × Gs}, Cx p s m args meth c cX12_sorted (some .boolean) 8 RX12 lw_all → Hx D (tX12 yT) A s H locs (wX12 hT aT yT gT) → lv_has ls 8 [(0, .ref hT), (1, .int v1), (5, .int v5)] → fn gT v1 v5 s0 s1 = some q → W p l e R_X12_sorted s m args below meth c H locs 0 0 (MQ below (QI D A (wX12 hT aT yT q.2) q.1) args s 0 0 A) (F0 m 421 ls [.int s0, .int s1, .ref hT])
def S_X12_sorted_541 (l : Launch) (D : Dx) (hT : Nat) (aT : Nat → Nat) (yT : Nat → ClassId) (fn : Gs → Int32 → Int32 → Int32 → Int32 → Option (Int32 × Gs)) : Prop :=
  ∀ {p : Program} {e : Env} {s : State} {m : MethodId} {args : Array Value} {below : List Frame} {meth : Method} {c : Code} {H : Heap} {locs : List Loc} {A : Nat → Prop} {ls : Array Slot} {gT : Gs} {v1 : Int32} {v5 : Int32} {s0 : Int32} {s1 : Int32} {q : Int32 × Gs}, Cx p s m args meth c cX12_sorted (some .boolean) 8 RX12 lw_all → Hx D (tX12 yT) A s H locs (wX12 hT aT yT gT) → lv_has ls 8 [(0, .ref hT), (1, .int v1), (5, .int v5)] → fn gT v1 v5 s0 s1 = some q → W p l e R_X12_sorted s m args below meth c H locs 0 0 (MQ below (QI D A (wX12 hT aT yT q.2) q.1) args s 0 0 A) (F0 m 541 ls [.int s0, .int s1, .ref hT])
def S_X12_sorted_532 (l : Launch) (D : Dx) (hT : Nat) (aT : Nat → Nat) (yT : Nat → ClassId) (fn : Gs → Int32 → Int32 → Int32 → Option (Int32 × Gs)) : Prop :=
  ∀ {p : Program} {e : Env} {s : State} {m : MethodId} {args : Array Value} {below : List Frame} {meth : Method} {c : Code} {H : Heap} {locs : List Loc} {A : Nat → Prop} {ls : Array Slot} {gT : Gs} {v1 : Int32} {v5 : Int32} {s0 : Int32} {q : Int32 × Gs}, Cx p s m args meth c cX12_sorted (some .boolean) 8 RX12 lw_all → Hx D (tX12 yT) A s H locs (wX12 hT aT yT gT) → lv_has ls 8 [(0, .ref hT), (1, .int v1), (5, .int v5)] → fn gT v1 v5 s0 = some q → W p l e R_X12_sorted s m args below meth c H locs 0 0 (MQ below (QI D A (wX12 hT aT yT q.2) q.1) args s 0 0 A) (F0 m 532 ls [.int s0, .ref hT])
def S_X12_sorted_481 (l : Launch) (D : Dx) (hT : Nat) (aT : Nat → Nat) (yT : Nat → ClassId) (fn : Gs → Int32 → Int32 → Int32 → Int32 → Int32 → Int32 → Option (Int32 × Gs)) : Prop :=
  ∀ {p : Program} {e : Env} {s : State} {m : MethodId} {args : Array Value} {below : List Frame} {meth : Method} {c : Code} {H : Heap} {locs : List Loc} {A : Nat → Prop} {ls : Array Slot} {gT : Gs} {v1 : Int32} {v2 : Int32} {v3 : Int32} {v6 : Int32} {v7 : Int32} {s0 : Int32} {q : Int32 × Gs}, Cx p s m args meth c cX12_sorted (some .boolean) 8 RX12 lw_all → Hx D (tX12 yT) A s H locs (wX12 hT aT yT gT) → lv_has ls 8 [(0, .ref hT), (1, .int v1), (2, .int v2), (3, .int v3), (6, .int v6), (7, .int v7)] → fn gT v1 v2 v3 v6 v7 s0 = some q → W p l e R_X12_sorted s m args below meth c H locs 0 0 (MQ below (QI D A (wX12 hT aT yT q.2) q.1) args s 0 0 A) (F0 m 481 ls [.int s0])
def S_X12_sorted_476 (l : Launch) (D : Dx) (hT : Nat) (aT : Nat → Nat) (yT : Nat → ClassId) (fn : Gs → Int32 → Int32 → Int32 → Int32 → Int32 → Option (Int32 × Gs)) : Prop :=
  ∀ {p : Program} {e : Env} {s : State} {m : MethodId} {args : Array Value} {below : List Frame} {meth : Method} {c : Code} {H : Heap} {locs : List Loc} {A : Nat → Prop} {ls : Array Slot} {gT : Gs} {v1 : Int32} {v2 : Int32} {v3 : Int32} {v6 : Int32} {v7 : Int32} {q : Int32 × Gs}, Cx p s m args meth c cX12_sorted (some .boolean) 8 RX12 lw_all → Hx D (tX12 yT) A s H locs (wX12 hT aT yT gT) → lv_has ls 8 [(0, .ref hT), (1, .int v1), (2, .int v2), (3, .int v3), (6, .int v6), (7, .int v7)] → fn gT v1 v2 v3 v6 v7 = some q → W p l e R_X12_sorted s m args below meth c H locs 0 0 (MQ below (QI D A (wX12 hT aT yT q.2) q.1) args s 0 0 A) (F0 m 476 ls [])
def S_X12_sorted_480 (l : Launch) (D : Dx) (hT : Nat) (aT : Nat → Nat) (yT : Nat → ClassId) (fn : Gs → Int32 → Int32 → Int32 → Int32 → Int32 → Option (Int32 × Gs)) : Prop :=
  ∀ {p : Program} {e : Env} {s : State} {m : MethodId} {args : Array Value} {below : List Frame} {meth : Method} {c : Code} {H : Heap} {locs : List Loc} {A : Nat → Prop} {ls : Array Slot} {gT : Gs} {v1 : Int32} {v2 : Int32} {v3 : Int32} {v6 : Int32} {v7 : Int32} {q : Int32 × Gs}, Cx p s m args meth c cX12_sorted (some .boolean) 8 RX12 lw_all → Hx D (tX12 yT) A s H locs (wX12 hT aT yT gT) → lv_has ls 8 [(0, .ref hT), (1, .int v1), (2, .int v2), (3, .int v3), (6, .int v6), (7, .int v7)] → fn gT v1 v2 v3 v6 v7 = some q → W p l e R_X12_sorted s m args below meth c H locs 0 0 (MQ below (QI D A (wX12 hT aT yT q.2) q.1) args s 0 0 A) (F0 m 480 ls [])
def S_X12_sorted_456 (l : Launch) (D : Dx) (hT : Nat) (aT : Nat → Nat) (yT : Nat → ClassId) (fn : Gs → Int32 → Int32 → Int32 → Int32 → Int32 → Int32 → Option (Int32 × Gs)) : Prop :=
  ∀ {p : Program} {e : Env} {s : State} {m : MethodId} {args : Array Value} {below : List Frame} {meth : Method} {c : Code} {H : Heap} {locs : List Loc} {A : Nat → Prop} {ls : Array Slot} {gT : Gs} {v1 : Int32} {v2 : Int32} {v3 : Int32} {v4 : Int32} {v6 : Int32} {s0 : Int32} {q : Int32 × Gs}, Cx p s m args meth c cX12_sorted (some .boolean) 8 RX12 lw_all → Hx D (tX12 yT) A s H locs (wX12 hT aT yT gT) → lv_has ls 8 [(0, .ref hT), (1, .int v1), (2, .int v2), (3, .int v3), (4, .int v4), (6, .int v6)] → fn gT v1 v2 v3 v4 v6 s0 = some q → W p l e R_X12_sorted s m args below meth c H locs 0 0 (MQ below (QI D A (wX12 hT aT yT q.2) q.1) args s 0 0 A) (F0 m 456 ls [.int s0])
def S_X12_sorted_451 (l : Launch) (D : Dx) (hT : Nat) (aT : Nat → Nat) (yT : Nat → ClassId) (fn : Gs → Int32 → Int32 → Int32 → Int32 → Int32 → Option (Int32 × Gs)) : Prop :=
  ∀ {p : Program} {e : Env} {s : State} {m : MethodId} {args : Array Value} {below : List Frame} {meth : Method} {c : Code} {H : Heap} {locs : List Loc} {A : Nat → Prop} {ls : Array Slot} {gT : Gs} {v1 : Int32} {v2 : Int32} {v3 : Int32} {v4 : Int32} {v6 : Int32} {q : Int32 × Gs}, Cx p s m args meth c cX12_sorted (some .boolean) 8 RX12 lw_all → Hx D (tX12 yT) A s H locs (wX12 hT aT yT gT) → lv_has ls 8 [(0, .ref hT), (1, .int v1), (2, .int v2), (3, .int v3), (4, .int v4), (6, .int v6)] → fn gT v1 v2 v3 v4 v6 = some q → W p l e R_X12_sorted s m args below meth c H locs 0 0 (MQ below (QI D A (wX12 hT aT yT q.2) q.1) args s 0 0 A) (F0 m 451 ls [])
def S_X12_sorted_560 (l : Launch) (D : Dx) (hT : Nat) (aT : Nat → Nat) (yT : Nat → ClassId) (fn : Gs → Int32 → Int32 → Option (Int32 × Gs)) : Prop :=
  ∀ {p : Program} {e : Env} {s : State} {m : MethodId} {args : Array Value} {below : List Frame} {meth : Method} {c : Code} {H : Heap} {locs : List Loc} {A : Nat → Prop} {ls : Array Slot} {gT : Gs} {v1 : Int32} {s0 : Int32} {q : Int32 × Gs}, Cx p s m args meth c cX12_sorted (some .boolean) 8 RX12 lw_all → Hx D (tX12 yT) A s H locs (wX12 hT aT yT gT) → lv_has ls 8 [(0, .ref hT), (1, .int v1)] → fn gT v1 s0 = some q → W p l e R_X12_sorted s m args below meth c H locs 0 0 (MQ below (QI D A (wX12 hT aT yT q.2) q.1) args s 0 0 A) (F0 m 560 ls [.int s0])
def S_X12_sorted_559 (l : Launch) (D : Dx) (hT : Nat) (aT : Nat → Nat) (yT : Nat → ClassId) (fn : Gs → Int32 → Option (Int32 × Gs)) : Prop :=
  ∀ {p : Program} {e : Env} {s : State} {m : MethodId} {args : Array Value} {below : List Frame} {meth : Method} {c : Code} {H : Heap} {locs : List Loc} {A : Nat → Prop} {ls : Array Slot} {gT : Gs} {v1 : Int32} {q : Int32 × Gs}, Cx p s m args meth c cX12_sorted (some .boolean) 8 RX12 lw_all → Hx D (tX12 yT) A s H locs (wX12 hT aT yT gT) → lv_has ls 8 [(0, .ref hT), (1, .int v1)] → fn gT v1 = some q → W p l e R_X12_sorted s m args below meth c H locs 0 0 (MQ below (QI D A (wX12 hT aT yT q.2) q.1) args s 0 0 A) (F0 m 559 ls [])
def S_X12_sorted_623 (l : Launch) (D : Dx) (hT : Nat) (aT : Nat → Nat) (yT : Nat → ClassId) (fn : Gs → Int32 → Int32 → Int32 → Int32 → Int32 → Option (Int32 × Gs)) : Prop :=
  ∀ {p : Program} {e : Env} {s : State} {m : MethodId} {args : Array Value} {below : List Frame} {meth : Method} {c : Code} {H : Heap} {locs : List Loc} {A : Nat → Prop} {ls : Array Slot} {gT : Gs} {v1 : Int32} {v2 : Int32} {v3 : Int32} {v5 : Int32} {s0 : Int32} {q : Int32 × Gs}, Cx p s m args meth c cX12_sorted (some .boolean) 8 RX12 lw_all → Hx D (tX12 yT) A s H locs (wX12 hT aT yT gT) → lv_has ls 8 [(0, .ref hT), (1, .int v1), (2, .int v2), (3, .int v3), (5, .int v5)] → fn gT v1 v2 v3 v5 s0 = some q → W p l e R_X12_sorted s m args below meth c H locs 0 0 (MQ below (QI D A (wX12 hT aT yT q.2) q.1) args s 0 0 A) (F0 m 623 ls [.int s0])
def S_X12_sorted_607 (l : Launch) (D : Dx) (hT : Nat) (aT : Nat → Nat) (yT : Nat → ClassId) (fn : Gs → Int32 → Int32 → Int32 → Int32 → Int32 → Option (Int32 × Gs)) : Prop :=
  ∀ {p : Program} {e : Env} {s : State} {m : MethodId} {args : Array Value} {below : List Frame} {meth : Method} {c : Code} {H : Heap} {locs : List Loc} {A : Nat → Prop} {ls : Array Slot} {gT : Gs} {v1 : Int32} {v2 : Int32} {v3 : Int32} {v4 : Int32} {s0 : Int32} {q : Int32 × Gs}, Cx p s m args meth c cX12_sorted (some .boolean) 8 RX12 lw_all → Hx D (tX12 yT) A s H locs (wX12 hT aT yT gT) → lv_has ls 8 [(0, .ref hT), (1, .int v1), (2, .int v2), (3, .int v3), (4, .int v4)] → fn gT v1 v2 v3 v4 s0 = some q → W p l e R_X12_sorted s m args below meth c H locs 0 0 (MQ below (QI D A (wX12 hT aT yT q.2) q.1) args s 0 0 A) (F0 m 607 ls [.int s0])
def S_X12_sorted_606 (l : Launch) (D : Dx) (hT : Nat) (aT : Nat → Nat) (yT : Nat → ClassId) (fn : Gs → Int32 → Int32 → Int32 → Int32 → Option (Int32 × Gs)) : Prop :=
  ∀ {p : Program} {e : Env} {s : State} {m : MethodId} {args : Array Value} {below : List Frame} {meth : Method} {c : Code} {H : Heap} {locs : List Loc} {A : Nat → Prop} {ls : Array Slot} {gT : Gs} {v1 : Int32} {v2 : Int32} {v3 : Int32} {v4 : Int32} {q : Int32 × Gs}, Cx p s m args meth c cX12_sorted (some .boolean) 8 RX12 lw_all → Hx D (tX12 yT) A s H locs (wX12 hT aT yT gT) → lv_has ls 8 [(0, .ref hT), (1, .int v1), (2, .int v2), (3, .int v3), (4, .int v4)] → fn gT v1 v2 v3 v4 = some q → W p l e R_X12_sorted s m args below meth c H locs 0 0 (MQ below (QI D A (wX12 hT aT yT q.2) q.1) args s 0 0 A) (F0 m 606 ls [])
def S_X12_sorted_602 (l : Launch) (D : Dx) (hT : Nat) (aT : Nat → Nat) (yT : Nat → ClassId) (fn : Gs → Int32 → Int32 → Int32 → Int32 → Option (Int32 × Gs)) : Prop :=
  ∀ {p : Program} {e : Env} {s : State} {m : MethodId} {args : Array Value} {below : List Frame} {meth : Method} {c : Code} {H : Heap} {locs : List Loc} {A : Nat → Prop} {ls : Array Slot} {gT : Gs} {v1 : Int32} {v2 : Int32} {v3 : Int32} {v4 : Int32} {q : Int32 × Gs}, Cx p s m args meth c cX12_sorted (some .boolean) 8 RX12 lw_all → Hx D (tX12 yT) A s H locs (wX12 hT aT yT gT) → lv_has ls 8 [(0, .ref hT), (1, .int v1), (2, .int v2), (3, .int v3), (4, .int v4)] → fn gT v1 v2 v3 v4 = some q → W p l e R_X12_sorted s m args below meth c H locs 0 0 (MQ below (QI D A (wX12 hT aT yT q.2) q.1) args s 0 0 A) (F0 m 602 ls [])
def S_X12_sorted_66 (l : Launch) (D : Dx) (hT : Nat) (aT : Nat → Nat) (yT : Nat → ClassId) (fn : Gs → Int32 → Int32 → Int32 → Int32 → Option (Int32 × Gs)) : Prop :=
  ∀ {p : Program} {e : Env} {s : State} {m : MethodId} {args : Array Value} {below : List Frame} {meth : Method} {c : Code} {H : Heap} {locs : List Loc} {A : Nat → Prop} {ls : Array Slot} {gT : Gs} {v1 : Int32} {v2 : Int32} {v3 : Int32} {s0 : Int32} {q : Int32 × Gs}, Cx p s m args meth c cX12_sorted (some .boolean) 8 RX12 lw_all → Hx D (tX12 yT) A s H locs (wX12 hT aT yT gT) → lv_has ls 8 [(0, .ref hT), (1, .int v1), (2, .int v2), (3, .int v3)] → fn gT v1 v2 v3 s0 = some q → W p l e R_X12_sorted s m args below meth c H locs 0 0 (MQ below (QI D A (wX12 hT aT yT q.2) q.1) args s 0 0 A) (F0 m 66 ls [.int s0])
def S_X12_sorted_65 (l : Launch) (D : Dx) (hT : Nat) (aT : Nat → Nat) (yT : Nat → ClassId) (fn : Gs → Int32 → Int32 → Int32 → Option (Int32 × Gs)) : Prop :=
  ∀ {p : Program} {e : Env} {s : State} {m : MethodId} {args : Array Value} {below : List Frame} {meth : Method} {c : Code} {H : Heap} {locs : List Loc} {A : Nat → Prop} {ls : Array Slot} {gT : Gs} {v1 : Int32} {v2 : Int32} {v3 : Int32} {q : Int32 × Gs}, Cx p s m args meth c cX12_sorted (some .boolean) 8 RX12 lw_all → Hx D (tX12 yT) A s H locs (wX12 hT aT yT gT) → lv_has ls 8 [(0, .ref hT), (1, .int v1), (2, .int v2), (3, .int v3)] → fn gT v1 v2 v3 = some q → W p l e R_X12_sorted s m args below meth c H locs 0 0 (MQ below (QI D A (wX12 hT aT yT q.2) q.1) args s 0 0 A) (F0 m 65 ls [])
def S_X12_sorted_46 (l : Launch) (D : Dx) (hT : Nat) (aT : Nat → Nat) (yT : Nat → ClassId) (fn : Gs → Int32 → Int32 → Int32 → Option (Int32 × Gs)) : Prop :=
  ∀ {p : Program} {e : Env} {s : State} {m : MethodId} {args : Array Value} {below : List Frame} {meth : Method} {c : Code} {H : Heap} {locs : List Loc} {A : Nat → Prop} {ls : Array Slot} {gT : Gs} {v1 : Int32} {v2 : Int32} {s0 : Int32} {q : Int32 × Gs}, Cx p s m args meth c cX12_sorted (some .boolean) 8 RX12 lw_all → Hx D (tX12 yT) A s H locs (wX12 hT aT yT gT) → lv_has ls 8 [(0, .ref hT), (1, .int v1), (2, .int v2)] → fn gT v1 v2 s0 = some q → W p l e R_X12_sorted s m args below meth c H locs 0 0 (MQ below (QI D A (wX12 hT aT yT q.2) q.1) args s 0 0 A) (F0 m 46 ls [.int s0])
def S_X12_sorted_22 (l : Launch) (D : Dx) (hT : Nat) (aT : Nat → Nat) (yT : Nat → ClassId) (fn : Gs → Int32 → Int32 → Option (Int32 × Gs)) : Prop :=
  ∀ {p : Program} {e : Env} {s : State} {m : MethodId} {args : Array Value} {below : List Frame} {meth : Method} {c : Code} {H : Heap} {locs : List Loc} {A : Nat → Prop} {ls : Array Slot} {gT : Gs} {v1 : Int32} {s0 : Int32} {q : Int32 × Gs}, Cx p s m args meth c cX12_sorted (some .boolean) 8 RX12 lw_all → Hx D (tX12 yT) A s H locs (wX12 hT aT yT gT) → lv_has ls 8 [(0, .ref hT), (1, .int v1)] → fn gT v1 s0 = some q → W p l e R_X12_sorted s m args below meth c H locs 0 0 (MQ below (QI D A (wX12 hT aT yT q.2) q.1) args s 0 0 A) (F0 m 22 ls [.int s0])
set_option maxHeartbeats 4000000 in
set_option maxRecDepth 100000 in
theorem k_X12_sorted_666 (l : Launch) (D : Dx) (hT : Nat) (aT : Nat → Nat) (yT : Nat → ClassId) : S_X12_sorted_666 l D hT aT yT (b_X12_sorted_666) := by
  intro p e s m args below meth c H locs A ls gT v1 v5 q C X hl hF
  obtain ⟨hx, hb, hr, hml, hown, hts, hlk⟩ := id C
  unfold b_X12_sorted_666 at hF
  refine lv_iload hx hb dX12_sorted_666 (lv_at hl 2 rfl) ?_
  refine lv_if_ne (tgt := 683) hx hb dX12_sorted_668 (by decide) (fun c => ?_) (fun c => ?_)
  · replace hF := iF c hF
    refine lv_iconst (v := (1 : Int32)) hx hb dX12_sorted_683 (by decide) ?_
    have hq := Option.some.inj hF
    subst hq
    exact rt_z (v := (1 : Int32)) C X (by decide) dX12_sorted_684
  · replace hF := iT c hF
    refine lv_aload_n hx hb dX12_sorted_671 rfl (lv_at hl 0 rfl) ?_
    refine lv_iconst (v := (4 : Int32)) hx hb dX12_sorted_672 (by decide) ?_
    refine lv_aload_n hx hb dX12_sorted_673 rfl (lv_at hl 0 rfl) ?_
    refine va_get (D := D.1) (ci := 12) (v := .ref (aT 17)) (C := RX12) (T := TX12) (N := 114) hx hb hts wi_X12 hown X.1 X.2.1 0 rfl rfl 17 (by decide) (hts _ q6_211) (fun _ h9 => h9) (fl_get (by decide)) dX12_sorted_674 ?_
    refine lv_iload_n hx hb dX12_sorted_677 rfl (lv_at hl 1 rfl) ?_
    obtain ⟨h_7, hF⟩ := grd_some hF
    refine va_iald (D := D.1) (f := gIA gT 17) hx hb X.1 X.2.1 12 11 rfl rfl (inB_ok h_7) dX12_sorted_678 ?_
    obtain ⟨q_8, hc_9, hF⟩ := bnd_some hF
    refine cV_i (As := [.int (4 : Int32), .int (gIA gT 17 v1.toNatClampNeg)]) (rest := []) C X (c_X12_fault l D hT aT yT gT (4 : Int32) (gIA gT 17 v1.toNatClampNeg) q_8 hc_9 _) (cwV 2 hts (good_V q8_177 q8_179 q0_79 q1_9 q8_180) rfl rfl rfl (by decide +kernel) ⟨Nat.le_of_ble_eq_true rfl, Nat.le_of_ble_eq_true rfl⟩) (va_recv X.1 X.2.1 (ci := 12) (q0 := 0) rfl rfl) X.1 X.2.1 X.2.2.1 (free_all X) hl.1 rfl rfl (Nat.le_of_ble_eq_true rfl) dX12_sorted_679 ⟨Nat.le_of_ble_eq_true rfl, Nat.le_of_ble_eq_true rfl⟩ (fun t H1 locs1 ht hB hk hS => ?_)
    have X : Hx D (tX12 yT) A s H1 locs1 (wX12 hT aT yT q_8.2) := Hx_after_all X ht hB hS
    clear hk hS ht hB
    generalize H1 = H at X ⊢
    generalize locs1 = locs at X ⊢
    obtain ⟨h_10, hF⟩ := grd_some hF
    have hq := Option.some.inj hF
    subst hq
    exact rt_z (v := q_8.1) C X (zB_n h_10) dX12_sorted_682
set_option maxHeartbeats 4000000 in
set_option maxRecDepth 100000 in
theorem k_X12_sorted_234 (l : Launch) (D : Dx) (hT : Nat) (aT : Nat → Nat) (yT : Nat → ClassId) : S_X12_sorted_234 l D hT aT yT (b_X12_sorted_234) := by
  intro p e s m args below meth c H locs A ls gT v1 v2 s0 q C X hl hF
  obtain ⟨hx, hb, hr, hml, hown, hts, hlk⟩ := id C
  unfold b_X12_sorted_234 at hF
  refine lv_istore (lv' := [(5, .int s0), (0, .ref hT), (1, .int v1), (2, .int v2)]) hx hb dX12_sorted_234 hl (by decide) rfl (fun ls hl => ?_)
  refine lv_aload_n hx hb dX12_sorted_236 rfl (lv_at hl 1 rfl) ?_
  refine va_get (D := D.1) (ci := 12) (v := .ref (aT 16)) (C := RX12) (T := TX12) (N := 114) hx hb hts wi_X12 hown X.1 X.2.1 0 rfl rfl 16 (by decide) (hts _ q6_210) (fun _ h9 => h9) (fl_get (by decide)) dX12_sorted_237 ?_
  refine lv_iload_n hx hb dX12_sorted_240 rfl (lv_at hl 2 rfl) ?_
  refine lv_iload_n hx hb dX12_sorted_241 rfl (lv_at hl 3 rfl) ?_
  obtain ⟨h_25, hF⟩ := grd_some hF
  refine va_iast (D := D.1) (f := gIA gT 16) hx hb X.1 X.2.1 X.2.2.1 X.2.2.2.1 11 10 rfl rfl (inB_ok h_25) dX12_sorted_242 (fun H locs hP hD hS => ?_)
  have X : Hx D (tX12 yT) A s H locs (wX12 hT aT yT (sIA gT 16 (upd (gIA gT 16) v1.toNatClampNeg v2))) := Hx_set X (wG_sIA (i := 10) (k := 16) ndX12 rfl rfl) hP hD hS
  refine lv_aload_n hx hb dX12_sorted_243 rfl (lv_at hl 1 rfl) ?_
  refine lv_iconst (v := (1 : Int32)) hx hb dX12_sorted_244 (by decide) ?_
  refine lv_bipush (v := (7 : Int32)) hx hb dX12_sorted_245 (by decide) ?_
  obtain ⟨q_26, hc_27, hF⟩ := bnd_some hF
  refine cV_v (As := [.int (1 : Int32), .int (7 : Int32)]) (rest := []) C X (c_X12_gives l D hT aT yT (sIA gT 16 (upd (gIA gT 16) v1.toNatClampNeg v2)) (1 : Int32) (7 : Int32) q_26 hc_27 _) (cwV 2 hts (good_V q9_47 q9_49 q0_105 q1_9 q9_50) rfl rfl rfl (by decide +kernel) ⟨Nat.le_of_ble_eq_true rfl, Nat.le_of_ble_eq_true rfl⟩) (va_recv X.1 X.2.1 (ci := 12) (q0 := 0) rfl rfl) X.1 X.2.1 X.2.2.1 (free_all X) hl.1 rfl rfl (Nat.le_of_ble_eq_true rfl) dX12_sorted_247 ⟨Nat.le_of_ble_eq_true rfl, Nat.le_of_ble_eq_true rfl⟩ (fun t H1 locs1 ht hB hk hS => ?_)
  have X : Hx D (tX12 yT) A s H1 locs1 (wX12 hT aT yT q_26) := Hx_after_all X ht hB hS
  clear hk hS ht hB
  generalize H1 = H at X ⊢
  generalize locs1 = locs at X ⊢
  refine lv_goto (tgt := 666) hx hb dX12_sorted_250 (by decide) ?_
  exact (k_X12_sorted_666 l D hT aT yT) C X (lv_sub hl [1, 2, 0] rfl) hF
set_option maxHeartbeats 4000000 in
set_option maxRecDepth 100000 in
theorem k_X12_sorted_233 (l : Launch) (D : Dx) (hT : Nat) (aT : Nat → Nat) (yT : Nat → ClassId) : S_X12_sorted_233 l D hT aT yT (b_X12_sorted_233) := by
  intro p e s m args below meth c H locs A ls gT v1 v2 q C X hl hF
  obtain ⟨hx, hb, hr, hml, hown, hts, hlk⟩ := id C
  unfold b_X12_sorted_233 at hF
  refine lv_iconst (v := (0 : Int32)) hx hb dX12_sorted_233 (by decide) ?_
  exact (k_X12_sorted_234 l D hT aT yT) C X (lv_sub hl [0, 1, 2] rfl) hF
set_option maxHeartbeats 4000000 in
set_option maxRecDepth 100000 in
theorem k_X12_sorted_278 (l : Launch) (D : Dx) (hT : Nat) (aT : Nat → Nat) (yT : Nat → ClassId) : S_X12_sorted_278 l D hT aT yT (b_X12_sorted_278) := by
  intro p e s m args below meth c H locs A ls gT v1 v5 s0 s1 q C X hl hF
  obtain ⟨hx, hb, hr, hml, hown, hts, hlk⟩ := id C
  unfold b_X12_sorted_278 at hF
  obtain ⟨q_31, hc_32, hF⟩ := bnd_some hF
  refine cV_v (As := [.int s1, .int s0]) (rest := []) C X (c_X12_gives l D hT aT yT gT s1 s0 q_31 hc_32 _) (cwV 2 hts (good_V q9_47 q9_49 q0_105 q1_9 q9_50) rfl rfl rfl (by decide +kernel) ⟨Nat.le_of_ble_eq_true rfl, Nat.le_of_ble_eq_true rfl⟩) (va_recv X.1 X.2.1 (ci := 12) (q0 := 0) rfl rfl) X.1 X.2.1 X.2.2.1 (free_all X) hl.1 rfl rfl (Nat.le_of_ble_eq_true rfl) dX12_sorted_278 ⟨Nat.le_of_ble_eq_true rfl, Nat.le_of_ble_eq_true rfl⟩ (fun t H1 locs1 ht hB hk hS => ?_)
  have X : Hx D (tX12 yT) A s H1 locs1 (wX12 hT aT yT q_31) := Hx_after_all X ht hB hS
  clear hk hS ht hB
  generalize H1 = H at X ⊢
  generalize locs1 = locs at X ⊢
  refine lv_goto (tgt := 666) hx hb dX12_sorted_281 (by decide) ?_
  exact (k_X12_sorted_666 l D hT aT yT) C X (lv_sub hl [0, 1, 2] rfl) hF
set_option maxHeartbeats 4000000 in
set_option maxRecDepth 100000 in
theorem k_X12_sorted_293 (l : Launch) (D : Dx) (hT : Nat) (aT : Nat → Nat) (yT : Nat → ClassId) : S_X12_sorted_293 l D hT aT yT (b_X12_sorted_293) := by
  intro p e s m args below meth c H locs A ls gT v1 s0 q C X hl hF
  obtain ⟨hx, hb, hr, hml, hown, hts, hlk⟩ := id C
  unfold b_X12_sorted_293 at hF
  refine lv_istore (lv' := [(5, .int s0), (0, .ref hT), (1, .int v1)]) hx hb dX12_sorted_293 hl (by decide) rfl (fun ls hl => ?_)
  refine lv_aload_n hx hb dX12_sorted_295 rfl (lv_at hl 1 rfl) ?_
  refine lv_iconst (v := (1 : Int32)) hx hb dX12_sorted_296 (by decide) ?_
  refine lv_iconst (v := (0 : Int32)) hx hb dX12_sorted_297 (by decide) ?_
  obtain ⟨q_33, hc_34, hF⟩ := bnd_some hF
  refine cV_v (As := [.int (1 : Int32), .int (0 : Int32)]) (rest := []) C X (c_X12_gives l D hT aT yT gT (1 : Int32) (0 : Int32) q_33 hc_34 _) (cwV 2 hts (good_V q9_47 q9_49 q0_105 q1_9 q9_50) rfl rfl rfl (by decide +kernel) ⟨Nat.le_of_ble_eq_true rfl, Nat.le_of_ble_eq_true rfl⟩) (va_recv X.1 X.2.1 (ci := 12) (q0 := 0) rfl rfl) X.1 X.2.1 X.2.2.1 (free_all X) hl.1 rfl rfl (Nat.le_of_ble_eq_true rfl) dX12_sorted_298 ⟨Nat.le_of_ble_eq_true rfl, Nat.le_of_ble_eq_true rfl⟩ (fun t H1 locs1 ht hB hk hS => ?_)
  have X : Hx D (tX12 yT) A s H1 locs1 (wX12 hT aT yT q_33) := Hx_after_all X ht hB hS
  clear hk hS ht hB
  generalize H1 = H at X ⊢
  generalize locs1 = locs at X ⊢
  refine lv_goto (tgt := 666) hx hb dX12_sorted_301 (by decide) ?_
  exact (k_X12_sorted_666 l D hT aT yT) C X (lv_sub hl [1, 2, 0] rfl) hF
set_option maxHeartbeats 4000000 in
set_option maxRecDepth 100000 in
theorem k_X12_sorted_335 (l : Launch) (D : Dx) (hT : Nat) (aT : Nat → Nat) (yT : Nat → ClassId) : S_X12_sorted_335 l D hT aT yT (b_X12_sorted_335) := by
  intro p e s m args below meth c H locs A ls gT v1 v2 s0 q C X hl hF
  obtain ⟨hx, hb, hr, hml, hown, hts, hlk⟩ := id C
  unfold b_X12_sorted_335 at hF
  refine lv_istore (lv' := [(5, .int s0), (0, .ref hT), (1, .int v1), (2, .int v2)]) hx hb dX12_sorted_335 hl (by decide) rfl (fun ls hl => ?_)
  refine lv_aload_n hx hb dX12_sorted_337 rfl (lv_at hl 1 rfl) ?_
  refine va_get (D := D.1) (ci := 12) (v := .ref (aT 16)) (C := RX12) (T := TX12) (N := 114) hx hb hts wi_X12 hown X.1 X.2.1 0 rfl rfl 16 (by decide) (hts _ q6_210) (fun _ h9 => h9) (fl_get (by decide)) dX12_sorted_338 ?_
  refine lv_iload_n hx hb dX12_sorted_341 rfl (lv_at hl 2 rfl) ?_
  refine lv_iload_n hx hb dX12_sorted_342 rfl (lv_at hl 3 rfl) ?_
  obtain ⟨h_36, hF⟩ := grd_some hF
  refine va_iast (D := D.1) (f := gIA gT 16) hx hb X.1 X.2.1 X.2.2.1 X.2.2.2.1 11 10 rfl rfl (inB_ok h_36) dX12_sorted_343 (fun H locs hP hD hS => ?_)
  have X : Hx D (tX12 yT) A s H locs (wX12 hT aT yT (sIA gT 16 (upd (gIA gT 16) v1.toNatClampNeg v2))) := Hx_set X (wG_sIA (i := 10) (k := 16) ndX12 rfl rfl) hP hD hS
  refine lv_aload_n hx hb dX12_sorted_344 rfl (lv_at hl 1 rfl) ?_
  refine lv_iconst (v := (1 : Int32)) hx hb dX12_sorted_345 (by decide) ?_
  refine lv_aload_n hx hb dX12_sorted_346 rfl (lv_at hl 1 rfl) ?_
  refine va_get (D := D.1) (ci := 12) (v := .ref (aT 15)) (C := RX12) (T := TX12) (N := 114) hx hb hts wi_X12 hown X.1 X.2.1 0 rfl rfl 15 (by decide) (hts _ q6_209) (fun _ h9 => h9) (fl_get (by decide)) dX12_sorted_347 ?_
  refine lv_iload_n hx hb dX12_sorted_350 rfl (lv_at hl 2 rfl) ?_
  obtain ⟨h_37, hF⟩ := grd_some hF
  refine va_iald (D := D.1) (f := gIA gT 15) hx hb X.1 X.2.1 10 9 rfl rfl (inB_ok h_37) dX12_sorted_351 ?_
  obtain ⟨q_38, hc_39, hF⟩ := bnd_some hF
  refine cV_v (As := [.int (1 : Int32), .int (gIA gT 15 v1.toNatClampNeg)]) (rest := []) C X (c_X12_gives l D hT aT yT (sIA gT 16 (upd (gIA gT 16) v1.toNatClampNeg v2)) (1 : Int32) (gIA gT 15 v1.toNatClampNeg) q_38 hc_39 _) (cwV 2 hts (good_V q9_47 q9_49 q0_105 q1_9 q9_50) rfl rfl rfl (by decide +kernel) ⟨Nat.le_of_ble_eq_true rfl, Nat.le_of_ble_eq_true rfl⟩) (va_recv X.1 X.2.1 (ci := 12) (q0 := 0) rfl rfl) X.1 X.2.1 X.2.2.1 (free_all X) hl.1 rfl rfl (Nat.le_of_ble_eq_true rfl) dX12_sorted_352 ⟨Nat.le_of_ble_eq_true rfl, Nat.le_of_ble_eq_true rfl⟩ (fun t H1 locs1 ht hB hk hS => ?_)
  have X : Hx D (tX12 yT) A s H1 locs1 (wX12 hT aT yT q_38) := Hx_after_all X ht hB hS
  clear hk hS ht hB
  generalize H1 = H at X ⊢
  generalize locs1 = locs at X ⊢
  refine lv_goto (tgt := 666) hx hb dX12_sorted_355 (by decide) ?_
  exact (k_X12_sorted_666 l D hT aT yT) C X (lv_sub hl [1, 2, 0] rfl) hF
set_option maxHeartbeats 4000000 in
set_option maxRecDepth 100000 in
theorem k_X12_sorted_327 (l : Launch) (D : Dx) (hT : Nat) (aT : Nat → Nat) (yT : Nat → ClassId) : S_X12_sorted_327 l D hT aT yT (b_X12_sorted_327) := by
  intro p e s m args below meth c H locs A ls gT v1 v2 s0 s1 q C X hl hF
  obtain ⟨hx, hb, hr, hml, hown, hts, hlk⟩ := id C
  unfold b_X12_sorted_327 at hF
  refine lv_icmp_ne (tgt := 334) hx hb dX12_sorted_327 (by decide) (fun c => ?_) (fun c => ?_)
  · replace hF := iF c hF
    refine lv_iconst (v := (0 : Int32)) hx hb dX12_sorted_334 (by decide) ?_
    exact (k_X12_sorted_335 l D hT aT yT) C X (lv_sub hl [0, 1, 2] rfl) hF
  · replace hF := iT c hF
    refine lv_iconst (v := (1 : Int32)) hx hb dX12_sorted_330 (by decide) ?_
    refine lv_goto (tgt := 335) hx hb dX12_sorted_331 (by decide) ?_
    exact (k_X12_sorted_335 l D hT aT yT) C X (lv_sub hl [0, 1, 2] rfl) hF
set_option maxHeartbeats 4000000 in
set_option maxRecDepth 100000 in
theorem k_X12_sorted_313 (l : Launch) (D : Dx) (hT : Nat) (aT : Nat → Nat) (yT : Nat → ClassId) : S_X12_sorted_313 l D hT aT yT (b_X12_sorted_313) := by
  intro p e s m args below meth c H locs A ls gT v1 v2 s0 q C X hl hF
  obtain ⟨hx, hb, hr, hml, hown, hts, hlk⟩ := id C
  unfold b_X12_sorted_313 at hF
  refine lv_aload_n hx hb dX12_sorted_313 rfl (lv_at hl 0 rfl) ?_
  refine va_get (D := D.1) (ci := 12) (v := .ref (aT 15)) (C := RX12) (T := TX12) (N := 114) hx hb hts wi_X12 hown X.1 X.2.1 0 rfl rfl 15 (by decide) (hts _ q6_209) (fun _ h9 => h9) (fl_get (by decide)) dX12_sorted_314 ?_
  refine lv_iload_n hx hb dX12_sorted_317 rfl (lv_at hl 1 rfl) ?_
  obtain ⟨h_35, hF⟩ := grd_some hF
  refine va_iald (D := D.1) (f := gIA gT 15) hx hb X.1 X.2.1 10 9 rfl rfl (inB_ok h_35) dX12_sorted_318 ?_
  refine lv_if_ne (tgt := 326) hx hb dX12_sorted_319 (by decide) (fun c => ?_) (fun c => ?_)
  · replace hF := iF c hF
    refine lv_iconst (v := (0 : Int32)) hx hb dX12_sorted_326 (by decide) ?_
    exact (k_X12_sorted_327 l D hT aT yT) C X (lv_sub hl [0, 1, 2] rfl) hF
  · replace hF := iT c hF
    refine lv_iconst (v := (1 : Int32)) hx hb dX12_sorted_322 (by decide) ?_
    refine lv_goto (tgt := 327) hx hb dX12_sorted_323 (by decide) ?_
    exact (k_X12_sorted_327 l D hT aT yT) C X (lv_sub hl [0, 1, 2] rfl) hF
set_option maxHeartbeats 4000000 in
set_option maxRecDepth 100000 in
theorem k_X12_sorted_421 (l : Launch) (D : Dx) (hT : Nat) (aT : Nat → Nat) (yT : Nat → ClassId) : S_X12_sorted_421 l D hT aT yT (b_X12_sorted_421) := by
  intro p e s m args below meth c H locs A ls gT v1 v5 s0 s1 q C X hl hF
  obtain ⟨hx, hb, hr, hml, hown, hts, hlk⟩ := id C
  unfold b_X12_sorted_421 at hF
  obtain ⟨q_49, hc_50, hF⟩ := bnd_some hF
  refine cV_v (As := [.int s1, .int s0]) (rest := []) C X (c_X12_gives l D hT aT yT gT s1 s0 q_49 hc_50 _) (cwV 2 hts (good_V q9_47 q9_49 q0_105 q1_9 q9_50) rfl rfl rfl (by decide +kernel) ⟨Nat.le_of_ble_eq_true rfl, Nat.le_of_ble_eq_true rfl⟩) (va_recv X.1 X.2.1 (ci := 12) (q0 := 0) rfl rfl) X.1 X.2.1 X.2.2.1 (free_all X) hl.1 rfl rfl (Nat.le_of_ble_eq_true rfl) dX12_sorted_421 ⟨Nat.le_of_ble_eq_true rfl, Nat.le_of_ble_eq_true rfl⟩ (fun t H1 locs1 ht hB hk hS => ?_)
  have X : Hx D (tX12 yT) A s H1 locs1 (wX12 hT aT yT q_49) := Hx_after_all X ht hB hS
  clear hk hS ht hB
  generalize H1 = H at X ⊢
  generalize locs1 = locs at X ⊢
  refine lv_goto (tgt := 666) hx hb dX12_sorted_424 (by decide) ?_
  exact (k_X12_sorted_666 l D hT aT yT) C X (lv_sub hl [0, 1, 2] rfl) hF
set_option maxHeartbeats 4000000 in
set_option maxRecDepth 100000 in
theorem k_X12_sorted_541 (l : Launch) (D : Dx) (hT : Nat) (aT : Nat → Nat) (yT : Nat → ClassId) : S_X12_sorted_541 l D hT aT yT (b_X12_sorted_541) := by
  intro p e s m args below meth c H locs A ls gT v1 v5 s0 s1 q C X hl hF
  obtain ⟨hx, hb, hr, hml, hown, hts, hlk⟩ := id C
  unfold b_X12_sorted_541 at hF
  obtain ⟨q_53, hc_54, hF⟩ := bnd_some hF
  refine cV_v (As := [.int s1, .int s0]) (rest := []) C X (c_X12_gives l D hT aT yT gT s1 s0 q_53 hc_54 _) (cwV 2 hts (good_V q9_47 q9_49 q0_105 q1_9 q9_50) rfl rfl rfl (by decide +kernel) ⟨Nat.le_of_ble_eq_true rfl, Nat.le_of_ble_eq_true rfl⟩) (va_recv X.1 X.2.1 (ci := 12) (q0 := 0) rfl rfl) X.1 X.2.1 X.2.2.1 (free_all X) hl.1 rfl rfl (Nat.le_of_ble_eq_true rfl) dX12_sorted_541 ⟨Nat.le_of_ble_eq_true rfl, Nat.le_of_ble_eq_true rfl⟩ (fun t H1 locs1 ht hB hk hS => ?_)
  have X : Hx D (tX12 yT) A s H1 locs1 (wX12 hT aT yT q_53) := Hx_after_all X ht hB hS
  clear hk hS ht hB
  generalize H1 = H at X ⊢
  generalize locs1 = locs at X ⊢
  refine lv_goto (tgt := 666) hx hb dX12_sorted_544 (by decide) ?_
  exact (k_X12_sorted_666 l D hT aT yT) C X (lv_sub hl [0, 1, 2] rfl) hF
set_option maxHeartbeats 4000000 in
set_option maxRecDepth 100000 in
theorem k_X12_sorted_532 (l : Launch) (D : Dx) (hT : Nat) (aT : Nat → Nat) (yT : Nat → ClassId) : S_X12_sorted_532 l D hT aT yT (b_X12_sorted_532) := by
  intro p e s m args below meth c H locs A ls gT v1 v5 s0 q C X hl hF
  obtain ⟨hx, hb, hr, hml, hown, hts, hlk⟩ := id C
  unfold b_X12_sorted_532 at hF
  refine lv_iconst (v := (0 : Int32)) hx hb dX12_sorted_532 (by decide) ?_
  refine lv_goto (tgt := 541) hx hb dX12_sorted_533 (by decide) ?_
  exact (k_X12_sorted_541 l D hT aT yT) C X (lv_sub hl [0, 1, 2] rfl) hF
set_option maxHeartbeats 4000000 in
set_option maxRecDepth 100000 in
theorem k_X12_sorted_481 (l : Launch) (D : Dx) (hT : Nat) (aT : Nat → Nat) (yT : Nat → ClassId) : S_X12_sorted_481 l D hT aT yT (b_X12_sorted_481) := by
  intro p e s m args below meth c H locs A ls gT v1 v2 v3 v6 v7 s0 q C X hl hF
  obtain ⟨hx, hb, hr, hml, hown, hts, hlk⟩ := id C
  unfold b_X12_sorted_481 at hF
  refine lv_istore (lv' := [(5, .int s0), (0, .ref hT), (1, .int v1), (2, .int v2), (3, .int v3), (6, .int v6), (7, .int v7)]) hx hb dX12_sorted_481 hl (by decide) rfl (fun ls hl => ?_)
  refine lv_aload_n hx hb dX12_sorted_483 rfl (lv_at hl 1 rfl) ?_
  refine va_get (D := D.1) (ci := 12) (v := .ref (aT 16)) (C := RX12) (T := TX12) (N := 114) hx hb hts wi_X12 hown X.1 X.2.1 0 rfl rfl 16 (by decide) (hts _ q6_210) (fun _ h9 => h9) (fl_get (by decide)) dX12_sorted_484 ?_
  refine lv_iload_n hx hb dX12_sorted_487 rfl (lv_at hl 2 rfl) ?_
  refine lv_bipush (v := (8 : Int32)) hx hb dX12_sorted_488 (by decide) ?_
  refine lv_iload_n hx hb dX12_sorted_490 rfl (lv_at hl 4 rfl) ?_
  refine lv_imul hx hb dX12_sorted_491 ?_
  refine lv_iload_n hx hb dX12_sorted_492 rfl (lv_at hl 3 rfl) ?_
  refine lv_iadd hx hb dX12_sorted_493 ?_
  obtain ⟨h_52, hF⟩ := grd_some hF
  refine va_iast (D := D.1) (f := gIA gT 16) hx hb X.1 X.2.1 X.2.2.1 X.2.2.2.1 11 10 rfl rfl (inB_ok h_52) dX12_sorted_494 (fun H locs hP hD hS => ?_)
  have X : Hx D (tX12 yT) A s H locs (wX12 hT aT yT (sIA gT 16 (upd (gIA gT 16) v1.toNatClampNeg (((8 : Int32) * v3) + v2)))) := Hx_set X (wG_sIA (i := 10) (k := 16) ndX12 rfl rfl) hP hD hS
  refine lv_aload_n hx hb dX12_sorted_495 rfl (lv_at hl 1 rfl) ?_
  refine lv_iconst (v := (2 : Int32)) hx hb dX12_sorted_496 (by decide) ?_
  refine lv_iload hx hb dX12_sorted_497 (lv_at hl 6 rfl) ?_
  refine lv_if_ne (tgt := 532) hx hb dX12_sorted_499 (by decide) (fun c => ?_) (fun c => ?_)
  · replace hF := iF c hF
    exact (k_X12_sorted_532 l D hT aT yT) C X (lv_sub hl [1, 2, 0] rfl) hF
  · replace hF := iT c hF
    refine lv_iload hx hb dX12_sorted_502 (lv_at hl 5 rfl) ?_
    refine lv_bipush (v := (60 : Int32)) hx hb dX12_sorted_504 (by decide) ?_
    refine lv_icmp_eq (tgt := 532) hx hb dX12_sorted_506 (by decide) (fun c => ?_) (fun c => ?_)
    · replace hF := iT c hF
      exact (k_X12_sorted_532 l D hT aT yT) C X (lv_sub hl [1, 2, 0] rfl) hF
    · replace hF := iF c hF
      refine lv_iload hx hb dX12_sorted_509 (lv_at hl 5 rfl) ?_
      refine lv_bipush (v := (62 : Int32)) hx hb dX12_sorted_511 (by decide) ?_
      refine lv_icmp_eq (tgt := 532) hx hb dX12_sorted_513 (by decide) (fun c => ?_) (fun c => ?_)
      · replace hF := iT c hF
        exact (k_X12_sorted_532 l D hT aT yT) C X (lv_sub hl [1, 2, 0] rfl) hF
      · replace hF := iF c hF
        refine lv_iload hx hb dX12_sorted_516 (lv_at hl 5 rfl) ?_
        refine lv_sipush (v := (188 : Int32)) hx hb dX12_sorted_518 (by decide) ?_
        refine lv_icmp_eq (tgt := 532) hx hb dX12_sorted_521 (by decide) (fun c => ?_) (fun c => ?_)
        · replace hF := iT c hF
          exact (k_X12_sorted_532 l D hT aT yT) C X (lv_sub hl [1, 2, 0] rfl) hF
        · replace hF := iF c hF
          refine lv_iload hx hb dX12_sorted_524 (lv_at hl 5 rfl) ?_
          refine lv_sipush (v := (190 : Int32)) hx hb dX12_sorted_526 (by decide) ?_
          refine lv_icmp_ne (tgt := 536) hx hb dX12_sorted_529 (by decide) (fun c => ?_) (fun c => ?_)
          · replace hF := iF c hF
            refine lv_iload_n hx hb dX12_sorted_536 rfl (lv_at hl 4 rfl) ?_
            refine lv_iload_n hx hb dX12_sorted_537 rfl (lv_at hl 3 rfl) ?_
            obtain ⟨q_55, hc_56, hF⟩ := bnd_some hF
            refine cS_i (As := [.int v3, .int v2]) (rest := [.int (2 : Int32), .ref hT]) C X (c_X12_joined l D  v3 v2 q_55 hc_56 _) (va_cwS 2 hts (good_S q9_55 q9_56 q1_9 q9_57) rfl rfl rfl (by decide +kernel) ⟨Nat.le_of_ble_eq_true rfl, Nat.le_of_ble_eq_true rfl⟩) (eK X) eP (eD (A := A)) (eF X) hl.1 rfl rfl (Nat.le_of_ble_eq_true rfl) dX12_sorted_538 ⟨Nat.le_of_ble_eq_true rfl, Nat.le_of_ble_eq_true rfl⟩ (fun t H1 locs1 ht hB hk hS => ?_)
            have X := Hx_after_none X hk hS
            clear hk hS ht hB
            generalize H1 = H at X ⊢
            generalize locs1 = locs at X ⊢
            exact (k_X12_sorted_541 l D hT aT yT) C X (lv_sub hl [1, 2, 0] rfl) hF
          · replace hF := iT c hF
            exact (k_X12_sorted_532 l D hT aT yT) C X (lv_sub hl [1, 2, 0] rfl) hF
set_option maxHeartbeats 4000000 in
set_option maxRecDepth 100000 in
theorem k_X12_sorted_476 (l : Launch) (D : Dx) (hT : Nat) (aT : Nat → Nat) (yT : Nat → ClassId) : S_X12_sorted_476 l D hT aT yT (b_X12_sorted_476) := by
  intro p e s m args below meth c H locs A ls gT v1 v2 v3 v6 v7 q C X hl hF
  obtain ⟨hx, hb, hr, hml, hown, hts, hlk⟩ := id C
  unfold b_X12_sorted_476 at hF
  refine lv_iconst (v := (1 : Int32)) hx hb dX12_sorted_476 (by decide) ?_
  refine lv_goto (tgt := 481) hx hb dX12_sorted_477 (by decide) ?_
  exact (k_X12_sorted_481 l D hT aT yT) C X (lv_sub hl [0, 1, 2, 3, 4, 5] rfl) hF
set_option maxHeartbeats 4000000 in
set_option maxRecDepth 100000 in
theorem k_X12_sorted_480 (l : Launch) (D : Dx) (hT : Nat) (aT : Nat → Nat) (yT : Nat → ClassId) : S_X12_sorted_480 l D hT aT yT (b_X12_sorted_480) := by
  intro p e s m args below meth c H locs A ls gT v1 v2 v3 v6 v7 q C X hl hF
  obtain ⟨hx, hb, hr, hml, hown, hts, hlk⟩ := id C
  unfold b_X12_sorted_480 at hF
  refine lv_iconst (v := (0 : Int32)) hx hb dX12_sorted_480 (by decide) ?_
  exact (k_X12_sorted_481 l D hT aT yT) C X (lv_sub hl [0, 1, 2, 3, 4, 5] rfl) hF
set_option maxHeartbeats 4000000 in
set_option maxRecDepth 100000 in
theorem k_X12_sorted_456 (l : Launch) (D : Dx) (hT : Nat) (aT : Nat → Nat) (yT : Nat → ClassId) : S_X12_sorted_456 l D hT aT yT (b_X12_sorted_456) := by
  intro p e s m args below meth c H locs A ls gT v1 v2 v3 v4 v6 s0 q C X hl hF
  obtain ⟨hx, hb, hr, hml, hown, hts, hlk⟩ := id C
  unfold b_X12_sorted_456 at hF
  refine lv_istore (lv' := [(7, .int s0), (0, .ref hT), (1, .int v1), (2, .int v2), (3, .int v3), (4, .int v4), (6, .int v6)]) hx hb dX12_sorted_456 hl (by decide) rfl (fun ls hl => ?_)
  refine lv_iload hx hb dX12_sorted_458 (lv_at hl 5 rfl) ?_
  refine lv_if_ne (tgt := 476) hx hb dX12_sorted_460 (by decide) (fun c => ?_) (fun c => ?_)
  · replace hF := iF c hF
    exact (k_X12_sorted_476 l D hT aT yT) C X (lv_sub hl [1, 2, 3, 4, 6, 0] rfl) hF
  · replace hF := iT c hF
    refine lv_iload hx hb dX12_sorted_463 (lv_at hl 0 rfl) ?_
    refine lv_if_eq (tgt := 480) hx hb dX12_sorted_465 (by decide) (fun c => ?_) (fun c => ?_)
    · replace hF := iT c hF
      exact (k_X12_sorted_480 l D hT aT yT) C X (lv_sub hl [1, 2, 3, 4, 6, 0] rfl) hF
    · replace hF := iF c hF
      refine lv_iload_n hx hb dX12_sorted_468 rfl (lv_at hl 3 rfl) ?_
      refine lv_if_ne (tgt := 480) hx hb dX12_sorted_469 (by decide) (fun c => ?_) (fun c => ?_)
      · replace hF := iF c hF
        exact (k_X12_sorted_480 l D hT aT yT) C X (lv_sub hl [1, 2, 3, 4, 6, 0] rfl) hF
      · replace hF := iT c hF
        refine lv_iload_n hx hb dX12_sorted_472 rfl (lv_at hl 4 rfl) ?_
        refine lv_if_ne (tgt := 480) hx hb dX12_sorted_473 (by decide) (fun c => ?_) (fun c => ?_)
        · replace hF := iF c hF
          exact (k_X12_sorted_480 l D hT aT yT) C X (lv_sub hl [1, 2, 3, 4, 6, 0] rfl) hF
        · replace hF := iT c hF
          exact (k_X12_sorted_476 l D hT aT yT) C X (lv_sub hl [1, 2, 3, 4, 6, 0] rfl) hF
set_option maxHeartbeats 4000000 in
set_option maxRecDepth 100000 in
theorem k_X12_sorted_451 (l : Launch) (D : Dx) (hT : Nat) (aT : Nat → Nat) (yT : Nat → ClassId) : S_X12_sorted_451 l D hT aT yT (b_X12_sorted_451) := by
  intro p e s m args below meth c H locs A ls gT v1 v2 v3 v4 v6 q C X hl hF
  obtain ⟨hx, hb, hr, hml, hown, hts, hlk⟩ := id C
  unfold b_X12_sorted_451 at hF
  refine lv_iconst (v := (1 : Int32)) hx hb dX12_sorted_451 (by decide) ?_
  refine lv_goto (tgt := 456) hx hb dX12_sorted_452 (by decide) ?_
  exact (k_X12_sorted_456 l D hT aT yT) C X (lv_sub hl [0, 1, 2, 3, 4, 5] rfl) hF
set_option maxHeartbeats 4000000 in
set_option maxRecDepth 100000 in
theorem k_X12_sorted_560 (l : Launch) (D : Dx) (hT : Nat) (aT : Nat → Nat) (yT : Nat → ClassId) : S_X12_sorted_560 l D hT aT yT (b_X12_sorted_560) := by
  intro p e s m args below meth c H locs A ls gT v1 s0 q C X hl hF
  obtain ⟨hx, hb, hr, hml, hown, hts, hlk⟩ := id C
  unfold b_X12_sorted_560 at hF
  refine lv_istore (lv' := [(5, .int s0), (0, .ref hT), (1, .int v1)]) hx hb dX12_sorted_560 hl (by decide) rfl (fun ls hl => ?_)
  refine lv_aload_n hx hb dX12_sorted_562 rfl (lv_at hl 1 rfl) ?_
  refine lv_iconst (v := (2 : Int32)) hx hb dX12_sorted_563 (by decide) ?_
  refine lv_iconst (v := (0 : Int32)) hx hb dX12_sorted_564 (by decide) ?_
  obtain ⟨q_57, hc_58, hF⟩ := bnd_some hF
  refine cV_v (As := [.int (2 : Int32), .int (0 : Int32)]) (rest := []) C X (c_X12_gives l D hT aT yT gT (2 : Int32) (0 : Int32) q_57 hc_58 _) (cwV 2 hts (good_V q9_47 q9_49 q0_105 q1_9 q9_50) rfl rfl rfl (by decide +kernel) ⟨Nat.le_of_ble_eq_true rfl, Nat.le_of_ble_eq_true rfl⟩) (va_recv X.1 X.2.1 (ci := 12) (q0 := 0) rfl rfl) X.1 X.2.1 X.2.2.1 (free_all X) hl.1 rfl rfl (Nat.le_of_ble_eq_true rfl) dX12_sorted_565 ⟨Nat.le_of_ble_eq_true rfl, Nat.le_of_ble_eq_true rfl⟩ (fun t H1 locs1 ht hB hk hS => ?_)
  have X : Hx D (tX12 yT) A s H1 locs1 (wX12 hT aT yT q_57) := Hx_after_all X ht hB hS
  clear hk hS ht hB
  generalize H1 = H at X ⊢
  generalize locs1 = locs at X ⊢
  refine lv_goto (tgt := 666) hx hb dX12_sorted_568 (by decide) ?_
  exact (k_X12_sorted_666 l D hT aT yT) C X (lv_sub hl [1, 2, 0] rfl) hF
set_option maxHeartbeats 4000000 in
set_option maxRecDepth 100000 in
theorem k_X12_sorted_559 (l : Launch) (D : Dx) (hT : Nat) (aT : Nat → Nat) (yT : Nat → ClassId) : S_X12_sorted_559 l D hT aT yT (b_X12_sorted_559) := by
  intro p e s m args below meth c H locs A ls gT v1 q C X hl hF
  obtain ⟨hx, hb, hr, hml, hown, hts, hlk⟩ := id C
  unfold b_X12_sorted_559 at hF
  refine lv_iconst (v := (0 : Int32)) hx hb dX12_sorted_559 (by decide) ?_
  exact (k_X12_sorted_560 l D hT aT yT) C X (lv_sub hl [0, 1] rfl) hF
set_option maxHeartbeats 4000000 in
set_option maxRecDepth 100000 in
theorem k_X12_sorted_623 (l : Launch) (D : Dx) (hT : Nat) (aT : Nat → Nat) (yT : Nat → ClassId) : S_X12_sorted_623 l D hT aT yT (b_X12_sorted_623) := by
  intro p e s m args below meth c H locs A ls gT v1 v2 v3 v5 s0 q C X hl hF
  obtain ⟨hx, hb, hr, hml, hown, hts, hlk⟩ := id C
  unfold b_X12_sorted_623 at hF
  refine lv_istore (lv' := [(7, .int s0), (0, .ref hT), (1, .int v1), (2, .int v2), (3, .int v3), (5, .int v5)]) hx hb dX12_sorted_623 hl (by decide) rfl (fun ls hl => ?_)
  refine lv_aload_n hx hb dX12_sorted_625 rfl (lv_at hl 1 rfl) ?_
  refine va_get (D := D.1) (ci := 12) (v := .ref (aT 16)) (C := RX12) (T := TX12) (N := 114) hx hb hts wi_X12 hown X.1 X.2.1 0 rfl rfl 16 (by decide) (hts _ q6_210) (fun _ h9 => h9) (fl_get (by decide)) dX12_sorted_626 ?_
  refine lv_iload_n hx hb dX12_sorted_629 rfl (lv_at hl 2 rfl) ?_
  refine lv_bipush (v := (8 : Int32)) hx hb dX12_sorted_630 (by decide) ?_
  refine lv_iload_n hx hb dX12_sorted_632 rfl (lv_at hl 3 rfl) ?_
  refine lv_imul hx hb dX12_sorted_633 ?_
  refine lv_iload hx hb dX12_sorted_634 (lv_at hl 0 rfl) ?_
  refine lv_iadd hx hb dX12_sorted_636 ?_
  obtain ⟨h_60, hF⟩ := grd_some hF
  refine va_iast (D := D.1) (f := gIA gT 16) hx hb X.1 X.2.1 X.2.2.1 X.2.2.2.1 11 10 rfl rfl (inB_ok h_60) dX12_sorted_637 (fun H locs hP hD hS => ?_)
  have X : Hx D (tX12 yT) A s H locs (wX12 hT aT yT (sIA gT 16 (upd (gIA gT 16) v1.toNatClampNeg (((8 : Int32) * v2) + s0)))) := Hx_set X (wG_sIA (i := 10) (k := 16) ndX12 rfl rfl) hP hD hS
  refine lv_aload_n hx hb dX12_sorted_638 rfl (lv_at hl 1 rfl) ?_
  refine va_get (D := D.1) (ci := 12) (v := .ref (aT 16)) (C := RX12) (T := TX12) (N := 114) hx hb hts wi_X12 hown X.1 X.2.1 0 rfl rfl 16 (by decide) (hts _ q6_210) (fun _ h9 => h9) (fl_get (by decide)) dX12_sorted_639 ?_
  refine lv_aload_n hx hb dX12_sorted_642 rfl (lv_at hl 1 rfl) ?_
  refine va_get (D := D.1) (ci := 12) (v := .ref (aT 15)) (C := RX12) (T := TX12) (N := 114) hx hb hts wi_X12 hown X.1 X.2.1 0 rfl rfl 15 (by decide) (hts _ q6_209) (fun _ h9 => h9) (fl_get (by decide)) dX12_sorted_643 ?_
  refine lv_iload_n hx hb dX12_sorted_646 rfl (lv_at hl 2 rfl) ?_
  obtain ⟨h_61, hF⟩ := grd_some hF
  refine va_iald (D := D.1) (f := gIA gT 15) hx hb X.1 X.2.1 10 9 rfl rfl (inB_ok h_61) dX12_sorted_647 ?_
  refine lv_bipush (v := (8 : Int32)) hx hb dX12_sorted_648 (by decide) ?_
  refine lv_iload_n hx hb dX12_sorted_650 rfl (lv_at hl 4 rfl) ?_
  refine lv_imul hx hb dX12_sorted_651 ?_
  refine lv_iload hx hb dX12_sorted_652 (lv_at hl 0 rfl) ?_
  refine lv_iadd hx hb dX12_sorted_654 ?_
  obtain ⟨h_62, hF⟩ := grd_some hF
  refine va_iast (D := D.1) (f := upd (gIA gT 16) v1.toNatClampNeg (((8 : Int32) * v2) + s0)) hx hb X.1 X.2.1 X.2.2.1 X.2.2.2.1 11 10 rfl rfl (inB_ok h_62) dX12_sorted_655 (fun H locs hP hD hS => ?_)
  have X : Hx D (tX12 yT) A s H locs (wX12 hT aT yT (sIA (sIA gT 16 (upd (gIA gT 16) v1.toNatClampNeg (((8 : Int32) * v2) + s0))) 16 (upd (upd (gIA gT 16) v1.toNatClampNeg (((8 : Int32) * v2) + s0)) (gIA gT 15 v1.toNatClampNeg).toNatClampNeg (((8 : Int32) * v3) + s0)))) := Hx_set X (wG_sIA (i := 10) (k := 16) ndX12 rfl rfl) hP hD hS
  refine lv_aload_n hx hb dX12_sorted_656 rfl (lv_at hl 1 rfl) ?_
  refine lv_iconst (v := (3 : Int32)) hx hb dX12_sorted_657 (by decide) ?_
  refine lv_iload hx hb dX12_sorted_658 (lv_at hl 0 rfl) ?_
  obtain ⟨q_63, hc_64, hF⟩ := bnd_some hF
  refine cV_v (As := [.int (3 : Int32), .int s0]) (rest := []) C X (c_X12_gives l D hT aT yT (sIA (sIA gT 16 (upd (gIA gT 16) v1.toNatClampNeg (((8 : Int32) * v2) + s0))) 16 (upd (upd (gIA gT 16) v1.toNatClampNeg (((8 : Int32) * v2) + s0)) (gIA gT 15 v1.toNatClampNeg).toNatClampNeg (((8 : Int32) * v3) + s0))) (3 : Int32) s0 q_63 hc_64 _) (cwV 2 hts (good_V q9_47 q9_49 q0_105 q1_9 q9_50) rfl rfl rfl (by decide +kernel) ⟨Nat.le_of_ble_eq_true rfl, Nat.le_of_ble_eq_true rfl⟩) (va_recv X.1 X.2.1 (ci := 12) (q0 := 0) rfl rfl) X.1 X.2.1 X.2.2.1 (free_all X) hl.1 rfl rfl (Nat.le_of_ble_eq_true rfl) dX12_sorted_660 ⟨Nat.le_of_ble_eq_true rfl, Nat.le_of_ble_eq_true rfl⟩ (fun t H1 locs1 ht hB hk hS => ?_)
  have X : Hx D (tX12 yT) A s H1 locs1 (wX12 hT aT yT q_63) := Hx_after_all X ht hB hS
  clear hk hS ht hB
  generalize H1 = H at X ⊢
  generalize locs1 = locs at X ⊢
  refine lv_goto (tgt := 666) hx hb dX12_sorted_663 (by decide) ?_
  exact (k_X12_sorted_666 l D hT aT yT) C X (lv_sub hl [1, 2, 5] rfl) hF
set_option maxHeartbeats 4000000 in
set_option maxRecDepth 100000 in
theorem k_X12_sorted_607 (l : Launch) (D : Dx) (hT : Nat) (aT : Nat → Nat) (yT : Nat → ClassId) : S_X12_sorted_607 l D hT aT yT (b_X12_sorted_607) := by
  intro p e s m args below meth c H locs A ls gT v1 v2 v3 v4 s0 q C X hl hF
  obtain ⟨hx, hb, hr, hml, hown, hts, hlk⟩ := id C
  unfold b_X12_sorted_607 at hF
  refine lv_istore (lv' := [(5, .int s0), (0, .ref hT), (1, .int v1), (2, .int v2), (3, .int v3), (4, .int v4)]) hx hb dX12_sorted_607 hl (by decide) rfl (fun ls hl => ?_)
  refine lv_iload hx hb dX12_sorted_609 (lv_at hl 5 rfl) ?_
  refine lv_if_eq (tgt := 622) hx hb dX12_sorted_611 (by decide) (fun c => ?_) (fun c => ?_)
  · replace hF := iT c hF
    refine lv_iconst (v := (0 : Int32)) hx hb dX12_sorted_622 (by decide) ?_
    exact (k_X12_sorted_623 l D hT aT yT) C X (lv_sub hl [1, 2, 3, 4, 0] rfl) hF
  · replace hF := iF c hF
    refine lv_iload_n hx hb dX12_sorted_614 rfl (lv_at hl 4 rfl) ?_
    refine lv_iload_n hx hb dX12_sorted_615 rfl (lv_at hl 3 rfl) ?_
    obtain ⟨q_65, hc_66, hF⟩ := bnd_some hF
    refine cS_i (As := [.int v3, .int v2]) (rest := []) C X (c_X12_joined l D  v3 v2 q_65 hc_66 _) (va_cwS 2 hts (good_S q9_55 q9_56 q1_9 q9_57) rfl rfl rfl (by decide +kernel) ⟨Nat.le_of_ble_eq_true rfl, Nat.le_of_ble_eq_true rfl⟩) (eK X) eP (eD (A := A)) (eF X) hl.1 rfl rfl (Nat.le_of_ble_eq_true rfl) dX12_sorted_616 ⟨Nat.le_of_ble_eq_true rfl, Nat.le_of_ble_eq_true rfl⟩ (fun t H1 locs1 ht hB hk hS => ?_)
    have X := Hx_after_none X hk hS
    clear hk hS ht hB
    generalize H1 = H at X ⊢
    generalize locs1 = locs at X ⊢
    refine lv_goto (tgt := 623) hx hb dX12_sorted_619 (by decide) ?_
    exact (k_X12_sorted_623 l D hT aT yT) C X (lv_sub hl [1, 2, 3, 4, 0] rfl) hF
set_option maxHeartbeats 4000000 in
set_option maxRecDepth 100000 in
theorem k_X12_sorted_606 (l : Launch) (D : Dx) (hT : Nat) (aT : Nat → Nat) (yT : Nat → ClassId) : S_X12_sorted_606 l D hT aT yT (b_X12_sorted_606) := by
  intro p e s m args below meth c H locs A ls gT v1 v2 v3 v4 q C X hl hF
  obtain ⟨hx, hb, hr, hml, hown, hts, hlk⟩ := id C
  unfold b_X12_sorted_606 at hF
  refine lv_iconst (v := (0 : Int32)) hx hb dX12_sorted_606 (by decide) ?_
  exact (k_X12_sorted_607 l D hT aT yT) C X (lv_sub hl [0, 1, 2, 3, 4] rfl) hF
set_option maxHeartbeats 4000000 in
set_option maxRecDepth 100000 in
theorem k_X12_sorted_602 (l : Launch) (D : Dx) (hT : Nat) (aT : Nat → Nat) (yT : Nat → ClassId) : S_X12_sorted_602 l D hT aT yT (b_X12_sorted_602) := by
  intro p e s m args below meth c H locs A ls gT v1 v2 v3 v4 q C X hl hF
  obtain ⟨hx, hb, hr, hml, hown, hts, hlk⟩ := id C
  unfold b_X12_sorted_602 at hF
  refine lv_iconst (v := (1 : Int32)) hx hb dX12_sorted_602 (by decide) ?_
  refine lv_goto (tgt := 607) hx hb dX12_sorted_603 (by decide) ?_
  exact (k_X12_sorted_607 l D hT aT yT) C X (lv_sub hl [0, 1, 2, 3, 4] rfl) hF
set_option maxHeartbeats 4000000 in
set_option maxRecDepth 100000 in
theorem k_X12_sorted_66 (l : Launch) (D : Dx) (hT : Nat) (aT : Nat → Nat) (yT : Nat → ClassId) : S_X12_sorted_66 l D hT aT yT (b_X12_sorted_66) := by
  intro p e s m args below meth c H locs A ls gT v1 v2 v3 s0 q C X hl hF
  obtain ⟨hx, hb, hr, hml, hown, hts, hlk⟩ := id C
  unfold b_X12_sorted_66 at hF
  refine lv_istore (lv' := [(4, .int s0), (0, .ref hT), (1, .int v1), (2, .int v2), (3, .int v3)]) hx hb dX12_sorted_66 hl (by decide) rfl (fun ls hl => ?_)
  refine lv_iconst (v := (1 : Int32)) hx hb dX12_sorted_68 (by decide) ?_
  refine lv_istore (lv' := [(5, .int (1 : Int32)), (4, .int s0), (0, .ref hT), (1, .int v1), (2, .int v2), (3, .int v3)]) hx hb dX12_sorted_69 hl (by decide) rfl (fun ls hl => ?_)
  refine lv_aload_n hx hb dX12_sorted_71 rfl (lv_at hl 2 rfl) ?_
  refine va_get (D := D.1) (ci := 12) (v := .ref (aT 14)) (C := RX12) (T := TX12) (N := 114) hx hb hts wi_X12 hown X.1 X.2.1 0 rfl rfl 14 (by decide) (hts _ q6_208) (fun _ h9 => h9) (fl_get (by decide)) dX12_sorted_72 ?_
  refine lv_iload_n hx hb dX12_sorted_75 rfl (lv_at hl 3 rfl) ?_
  obtain ⟨h_3, hF⟩ := grd_some hF
  refine va_iald (D := D.1) (f := gIA gT 14) hx hb X.1 X.2.1 9 8 rfl rfl (inB_ok h_3) dX12_sorted_76 ?_
  by_cases c1 : (gIA gT 14 v1.toNatClampNeg) = (1 : Int32)
  · replace hF := iT c1 hF
    refine lv_tableIn (tgt := 168) (off := 91) hx hb dX12_sorted_77 (by rw [c1]; decide) (by rw [c1]; decide) (by rw [c1]; rfl) (by decide) ?_
    refine lv_aload_n hx hb dX12_sorted_168 rfl (lv_at hl 2 rfl) ?_
    refine lv_iconst (v := (0 : Int32)) hx hb dX12_sorted_169 (by decide) ?_
    refine lv_aload_n hx hb dX12_sorted_170 rfl (lv_at hl 2 rfl) ?_
    refine va_get (D := D.1) (ci := 12) (v := .ref (aT 15)) (C := RX12) (T := TX12) (N := 114) hx hb hts wi_X12 hown X.1 X.2.1 0 rfl rfl 15 (by decide) (hts _ q6_209) (fun _ h9 => h9) (fl_get (by decide)) dX12_sorted_171 ?_
    refine lv_iload_n hx hb dX12_sorted_174 rfl (lv_at hl 3 rfl) ?_
    obtain ⟨h_4, hF⟩ := grd_some hF
    refine va_iald (D := D.1) (f := gIA gT 15) hx hb X.1 X.2.1 10 9 rfl rfl (inB_ok h_4) dX12_sorted_175 ?_
    obtain ⟨q_5, hc_6, hF⟩ := bnd_some hF
    refine cV_v (As := [.int (0 : Int32), .int (gIA gT 15 v1.toNatClampNeg)]) (rest := []) C X (c_X12_gives l D hT aT yT gT (0 : Int32) (gIA gT 15 v1.toNatClampNeg) q_5 hc_6 _) (cwV 2 hts (good_V q9_47 q9_49 q0_105 q1_9 q9_50) rfl rfl rfl (by decide +kernel) ⟨Nat.le_of_ble_eq_true rfl, Nat.le_of_ble_eq_true rfl⟩) (va_recv X.1 X.2.1 (ci := 12) (q0 := 0) rfl rfl) X.1 X.2.1 X.2.2.1 (free_all X) hl.1 rfl rfl (Nat.le_of_ble_eq_true rfl) dX12_sorted_176 ⟨Nat.le_of_ble_eq_true rfl, Nat.le_of_ble_eq_true rfl⟩ (fun t H1 locs1 ht hB hk hS => ?_)
    have X : Hx D (tX12 yT) A s H1 locs1 (wX12 hT aT yT q_5) := Hx_after_all X ht hB hS
    clear hk hS ht hB
    generalize H1 = H at X ⊢
    generalize locs1 = locs at X ⊢
    refine lv_goto (tgt := 666) hx hb dX12_sorted_179 (by decide) ?_
    exact (k_X12_sorted_666 l D hT aT yT) C X (lv_sub hl [2, 3, 0] rfl) hF
  · replace hF := iF c1 hF
    by_cases c2 : (gIA gT 14 v1.toNatClampNeg) = (2 : Int32)
    · replace hF := iT c2 hF
      refine lv_tableIn (tgt := 182) (off := 105) hx hb dX12_sorted_77 (by rw [c2]; decide) (by rw [c2]; decide) (by rw [c2]; rfl) (by decide) ?_
      refine lv_aload_n hx hb dX12_sorted_182 rfl (lv_at hl 2 rfl) ?_
      refine lv_iconst (v := (0 : Int32)) hx hb dX12_sorted_183 (by decide) ?_
      refine lv_iconst (v := (5 : Int32)) hx hb dX12_sorted_184 (by decide) ?_
      obtain ⟨q_11, hc_12, hF⟩ := bnd_some hF
      refine cV_v (As := [.int (0 : Int32), .int (5 : Int32)]) (rest := []) C X (c_X12_gives l D hT aT yT gT (0 : Int32) (5 : Int32) q_11 hc_12 _) (cwV 2 hts (good_V q9_47 q9_49 q0_105 q1_9 q9_50) rfl rfl rfl (by decide +kernel) ⟨Nat.le_of_ble_eq_true rfl, Nat.le_of_ble_eq_true rfl⟩) (va_recv X.1 X.2.1 (ci := 12) (q0 := 0) rfl rfl) X.1 X.2.1 X.2.2.1 (free_all X) hl.1 rfl rfl (Nat.le_of_ble_eq_true rfl) dX12_sorted_185 ⟨Nat.le_of_ble_eq_true rfl, Nat.le_of_ble_eq_true rfl⟩ (fun t H1 locs1 ht hB hk hS => ?_)
      have X : Hx D (tX12 yT) A s H1 locs1 (wX12 hT aT yT q_11) := Hx_after_all X ht hB hS
      clear hk hS ht hB
      generalize H1 = H at X ⊢
      generalize locs1 = locs at X ⊢
      refine lv_goto (tgt := 666) hx hb dX12_sorted_188 (by decide) ?_
      exact (k_X12_sorted_666 l D hT aT yT) C X (lv_sub hl [2, 3, 0] rfl) hF
    · replace hF := iF c2 hF
      by_cases c3 : (gIA gT 14 v1.toNatClampNeg) = (3 : Int32)
      · replace hF := iT c3 hF
        refine lv_tableIn (tgt := 191) (off := 114) hx hb dX12_sorted_77 (by rw [c3]; decide) (by rw [c3]; decide) (by rw [c3]; rfl) (by decide) ?_
        refine lv_aload_n hx hb dX12_sorted_191 rfl (lv_at hl 2 rfl) ?_
        refine lv_iconst (v := (0 : Int32)) hx hb dX12_sorted_192 (by decide) ?_
        refine lv_bipush (v := (7 : Int32)) hx hb dX12_sorted_193 (by decide) ?_
        obtain ⟨q_13, hc_14, hF⟩ := bnd_some hF
        refine cV_v (As := [.int (0 : Int32), .int (7 : Int32)]) (rest := []) C X (c_X12_gives l D hT aT yT gT (0 : Int32) (7 : Int32) q_13 hc_14 _) (cwV 2 hts (good_V q9_47 q9_49 q0_105 q1_9 q9_50) rfl rfl rfl (by decide +kernel) ⟨Nat.le_of_ble_eq_true rfl, Nat.le_of_ble_eq_true rfl⟩) (va_recv X.1 X.2.1 (ci := 12) (q0 := 0) rfl rfl) X.1 X.2.1 X.2.2.1 (free_all X) hl.1 rfl rfl (Nat.le_of_ble_eq_true rfl) dX12_sorted_195 ⟨Nat.le_of_ble_eq_true rfl, Nat.le_of_ble_eq_true rfl⟩ (fun t H1 locs1 ht hB hk hS => ?_)
        have X : Hx D (tX12 yT) A s H1 locs1 (wX12 hT aT yT q_13) := Hx_after_all X ht hB hS
        clear hk hS ht hB
        generalize H1 = H at X ⊢
        generalize locs1 = locs at X ⊢
        refine lv_goto (tgt := 666) hx hb dX12_sorted_198 (by decide) ?_
        exact (k_X12_sorted_666 l D hT aT yT) C X (lv_sub hl [2, 3, 0] rfl) hF
      · replace hF := iF c3 hF
        by_cases c4 : (gIA gT 14 v1.toNatClampNeg) = (4 : Int32)
        · replace hF := iT c4 hF
          refine lv_tableIn (tgt := 201) (off := 124) hx hb dX12_sorted_77 (by rw [c4]; decide) (by rw [c4]; decide) (by rw [c4]; rfl) (by decide) ?_
          refine lv_aload_n hx hb dX12_sorted_201 rfl (lv_at hl 2 rfl) ?_
          refine lv_iconst (v := (0 : Int32)) hx hb dX12_sorted_202 (by decide) ?_
          refine lv_aload_n hx hb dX12_sorted_203 rfl (lv_at hl 2 rfl) ?_
          refine lv_aload_n hx hb dX12_sorted_204 rfl (lv_at hl 2 rfl) ?_
          refine va_get (D := D.1) (ci := 12) (v := .ref (aT 15)) (C := RX12) (T := TX12) (N := 114) hx hb hts wi_X12 hown X.1 X.2.1 0 rfl rfl 15 (by decide) (hts _ q6_209) (fun _ h9 => h9) (fl_get (by decide)) dX12_sorted_205 ?_
          refine lv_iload_n hx hb dX12_sorted_208 rfl (lv_at hl 3 rfl) ?_
          obtain ⟨h_15, hF⟩ := grd_some hF
          refine va_iald (D := D.1) (f := gIA gT 15) hx hb X.1 X.2.1 10 9 rfl rfl (inB_ok h_15) dX12_sorted_209 ?_
          obtain ⟨q_16, hc_17, hF⟩ := bnd_some hF
          refine cV_i (As := [.int (gIA gT 15 v1.toNatClampNeg)]) (rest := [.int (0 : Int32), .ref hT]) C X (c_X12_sortOf l D hT aT yT gT (gIA gT 15 v1.toNatClampNeg) q_16 hc_17 _) (cwV 1 hts (good_V q9_51 q9_53 q0_106 q1_9 q9_54) rfl rfl rfl (by decide +kernel) ⟨Nat.le_of_ble_eq_true rfl, Nat.le_of_ble_eq_true rfl⟩) (va_recv X.1 X.2.1 (ci := 12) (q0 := 0) rfl rfl) X.1 X.2.1 X.2.2.1 (free_all X) hl.1 rfl rfl (Nat.le_of_ble_eq_true rfl) dX12_sorted_210 ⟨Nat.le_of_ble_eq_true rfl, Nat.le_of_ble_eq_true rfl⟩ (fun t H1 locs1 ht hB hk hS => ?_)
          have X : Hx D (tX12 yT) A s H1 locs1 (wX12 hT aT yT gT) := Hx_after_all X ht hB hS
          clear hk hS ht hB
          generalize H1 = H at X ⊢
          generalize locs1 = locs at X ⊢
          obtain ⟨q_18, hc_19, hF⟩ := bnd_some hF
          refine cV_v (As := [.int (0 : Int32), .int q_16]) (rest := []) C X (c_X12_gives l D hT aT yT gT (0 : Int32) q_16 q_18 hc_19 _) (cwV 2 hts (good_V q9_47 q9_49 q0_105 q1_9 q9_50) rfl rfl rfl (by decide +kernel) ⟨Nat.le_of_ble_eq_true rfl, Nat.le_of_ble_eq_true rfl⟩) (va_recv X.1 X.2.1 (ci := 12) (q0 := 0) rfl rfl) X.1 X.2.1 X.2.2.1 (free_all X) hl.1 rfl rfl (Nat.le_of_ble_eq_true rfl) dX12_sorted_213 ⟨Nat.le_of_ble_eq_true rfl, Nat.le_of_ble_eq_true rfl⟩ (fun t H1 locs1 ht hB hk hS => ?_)
          have X : Hx D (tX12 yT) A s H1 locs1 (wX12 hT aT yT q_18) := Hx_after_all X ht hB hS
          clear hk hS ht hB
          generalize H1 = H at X ⊢
          generalize locs1 = locs at X ⊢
          refine lv_goto (tgt := 666) hx hb dX12_sorted_216 (by decide) ?_
          exact (k_X12_sorted_666 l D hT aT yT) C X (lv_sub hl [2, 3, 0] rfl) hF
        · replace hF := iF c4 hF
          by_cases c5 : (gIA gT 14 v1.toNatClampNeg) = (5 : Int32)
          · replace hF := iT c5 hF
            refine lv_tableIn (tgt := 201) (off := 124) hx hb dX12_sorted_77 (by rw [c5]; decide) (by rw [c5]; decide) (by rw [c5]; rfl) (by decide) ?_
            refine lv_aload_n hx hb dX12_sorted_201 rfl (lv_at hl 2 rfl) ?_
            refine lv_iconst (v := (0 : Int32)) hx hb dX12_sorted_202 (by decide) ?_
            refine lv_aload_n hx hb dX12_sorted_203 rfl (lv_at hl 2 rfl) ?_
            refine lv_aload_n hx hb dX12_sorted_204 rfl (lv_at hl 2 rfl) ?_
            refine va_get (D := D.1) (ci := 12) (v := .ref (aT 15)) (C := RX12) (T := TX12) (N := 114) hx hb hts wi_X12 hown X.1 X.2.1 0 rfl rfl 15 (by decide) (hts _ q6_209) (fun _ h9 => h9) (fl_get (by decide)) dX12_sorted_205 ?_
            refine lv_iload_n hx hb dX12_sorted_208 rfl (lv_at hl 3 rfl) ?_
            obtain ⟨h_20, hF⟩ := grd_some hF
            refine va_iald (D := D.1) (f := gIA gT 15) hx hb X.1 X.2.1 10 9 rfl rfl (inB_ok h_20) dX12_sorted_209 ?_
            obtain ⟨q_21, hc_22, hF⟩ := bnd_some hF
            refine cV_i (As := [.int (gIA gT 15 v1.toNatClampNeg)]) (rest := [.int (0 : Int32), .ref hT]) C X (c_X12_sortOf l D hT aT yT gT (gIA gT 15 v1.toNatClampNeg) q_21 hc_22 _) (cwV 1 hts (good_V q9_51 q9_53 q0_106 q1_9 q9_54) rfl rfl rfl (by decide +kernel) ⟨Nat.le_of_ble_eq_true rfl, Nat.le_of_ble_eq_true rfl⟩) (va_recv X.1 X.2.1 (ci := 12) (q0 := 0) rfl rfl) X.1 X.2.1 X.2.2.1 (free_all X) hl.1 rfl rfl (Nat.le_of_ble_eq_true rfl) dX12_sorted_210 ⟨Nat.le_of_ble_eq_true rfl, Nat.le_of_ble_eq_true rfl⟩ (fun t H1 locs1 ht hB hk hS => ?_)
            have X : Hx D (tX12 yT) A s H1 locs1 (wX12 hT aT yT gT) := Hx_after_all X ht hB hS
            clear hk hS ht hB
            generalize H1 = H at X ⊢
            generalize locs1 = locs at X ⊢
            obtain ⟨q_23, hc_24, hF⟩ := bnd_some hF
            refine cV_v (As := [.int (0 : Int32), .int q_21]) (rest := []) C X (c_X12_gives l D hT aT yT gT (0 : Int32) q_21 q_23 hc_24 _) (cwV 2 hts (good_V q9_47 q9_49 q0_105 q1_9 q9_50) rfl rfl rfl (by decide +kernel) ⟨Nat.le_of_ble_eq_true rfl, Nat.le_of_ble_eq_true rfl⟩) (va_recv X.1 X.2.1 (ci := 12) (q0 := 0) rfl rfl) X.1 X.2.1 X.2.2.1 (free_all X) hl.1 rfl rfl (Nat.le_of_ble_eq_true rfl) dX12_sorted_213 ⟨Nat.le_of_ble_eq_true rfl, Nat.le_of_ble_eq_true rfl⟩ (fun t H1 locs1 ht hB hk hS => ?_)
            have X : Hx D (tX12 yT) A s H1 locs1 (wX12 hT aT yT q_23) := Hx_after_all X ht hB hS
            clear hk hS ht hB
            generalize H1 = H at X ⊢
            generalize locs1 = locs at X ⊢
            refine lv_goto (tgt := 666) hx hb dX12_sorted_216 (by decide) ?_
            exact (k_X12_sorted_666 l D hT aT yT) C X (lv_sub hl [2, 3, 0] rfl) hF
          · replace hF := iF c5 hF
            by_cases c6 : (gIA gT 14 v1.toNatClampNeg) = (6 : Int32)
            · replace hF := iT c6 hF
              refine lv_tableIn (tgt := 219) (off := 142) hx hb dX12_sorted_77 (by rw [c6]; decide) (by rw [c6]; decide) (by rw [c6]; rfl) (by decide) ?_
              refine lv_iload_n hx hb dX12_sorted_219 rfl (lv_at hl 4 rfl) ?_
              refine lv_iconst (v := (1 : Int32)) hx hb dX12_sorted_220 (by decide) ?_
              refine lv_icmp_lt (tgt := 233) hx hb dX12_sorted_221 (by decide) (fun c => ?_) (fun c => ?_)
              · replace hF := iT c hF
                exact (k_X12_sorted_233 l D hT aT yT) C X (lv_sub hl [2, 3, 4] rfl) hF
              · replace hF := iF c hF
                refine lv_iload_n hx hb dX12_sorted_224 rfl (lv_at hl 4 rfl) ?_
                refine lv_iconst (v := (4 : Int32)) hx hb dX12_sorted_225 (by decide) ?_
                refine lv_icmp_gt (tgt := 233) hx hb dX12_sorted_226 (by decide) (fun c => ?_) (fun c => ?_)
                · replace hF := iT c hF
                  exact (k_X12_sorted_233 l D hT aT yT) C X (lv_sub hl [2, 3, 4] rfl) hF
                · replace hF := iF c hF
                  refine lv_iconst (v := (1 : Int32)) hx hb dX12_sorted_229 (by decide) ?_
                  refine lv_goto (tgt := 234) hx hb dX12_sorted_230 (by decide) ?_
                  exact (k_X12_sorted_234 l D hT aT yT) C X (lv_sub hl [2, 3, 4] rfl) hF
            · replace hF := iF c6 hF
              by_cases c7 : (gIA gT 14 v1.toNatClampNeg) = (7 : Int32)
              · replace hF := iT c7 hF
                refine lv_tableIn (tgt := 253) (off := 176) hx hb dX12_sorted_77 (by rw [c7]; decide) (by rw [c7]; decide) (by rw [c7]; rfl) (by decide) ?_
                refine lv_iload_n hx hb dX12_sorted_253 rfl (lv_at hl 4 rfl) ?_
                obtain ⟨q_28, hc_29, hF⟩ := bnd_some hF
                refine cS_i (As := [.int v2]) (rest := []) C X (c_X12_isNumber l D  v2 q_28 hc_29 _) (va_cwS 1 hts (good_S q9_44 q9_45 q1_9 q9_46) rfl rfl rfl (by decide +kernel) ⟨Nat.le_of_ble_eq_true rfl, Nat.le_of_ble_eq_true rfl⟩) (eK X) eP (eD (A := A)) (eF X) hl.1 rfl rfl (Nat.le_of_ble_eq_true rfl) dX12_sorted_254 ⟨Nat.le_of_ble_eq_true rfl, Nat.le_of_ble_eq_true rfl⟩ (fun t H1 locs1 ht hB hk hS => ?_)
                have X := Hx_after_none X hk hS
                clear hk hS ht hB
                generalize H1 = H at X ⊢
                generalize locs1 = locs at X ⊢
                refine lv_istore (lv' := [(5, .int q_28), (4, .int s0), (0, .ref hT), (1, .int v1), (2, .int v2), (3, .int v3)]) hx hb dX12_sorted_257 hl (by decide) rfl (fun ls hl => ?_)
                refine lv_aload_n hx hb dX12_sorted_259 rfl (lv_at hl 2 rfl) ?_
                refine va_get (D := D.1) (ci := 12) (v := .ref (aT 16)) (C := RX12) (T := TX12) (N := 114) hx hb hts wi_X12 hown X.1 X.2.1 0 rfl rfl 16 (by decide) (hts _ q6_210) (fun _ h9 => h9) (fl_get (by decide)) dX12_sorted_260 ?_
                refine lv_iload_n hx hb dX12_sorted_263 rfl (lv_at hl 3 rfl) ?_
                refine lv_iload_n hx hb dX12_sorted_264 rfl (lv_at hl 4 rfl) ?_
                obtain ⟨h_30, hF⟩ := grd_some hF
                refine va_iast (D := D.1) (f := gIA gT 16) hx hb X.1 X.2.1 X.2.2.1 X.2.2.2.1 11 10 rfl rfl (inB_ok h_30) dX12_sorted_265 (fun H locs hP hD hS => ?_)
                have X : Hx D (tX12 yT) A s H locs (wX12 hT aT yT (sIA gT 16 (upd (gIA gT 16) v1.toNatClampNeg v2))) := Hx_set X (wG_sIA (i := 10) (k := 16) ndX12 rfl rfl) hP hD hS
                refine lv_aload_n hx hb dX12_sorted_266 rfl (lv_at hl 2 rfl) ?_
                refine lv_iconst (v := (1 : Int32)) hx hb dX12_sorted_267 (by decide) ?_
                refine lv_iload_n hx hb dX12_sorted_268 rfl (lv_at hl 4 rfl) ?_
                refine lv_iconst (v := (4 : Int32)) hx hb dX12_sorted_269 (by decide) ?_
                refine lv_icmp_ge (tgt := 277) hx hb dX12_sorted_270 (by decide) (fun c => ?_) (fun c => ?_)
                · replace hF := iT c hF
                  refine lv_iload_n hx hb dX12_sorted_277 rfl (lv_at hl 4 rfl) ?_
                  exact (k_X12_sorted_278 l D hT aT yT) C X (lv_sub hl [2, 3, 0] rfl) hF
                · replace hF := iF c hF
                  refine lv_iconst (v := (4 : Int32)) hx hb dX12_sorted_273 (by decide) ?_
                  refine lv_goto (tgt := 278) hx hb dX12_sorted_274 (by decide) ?_
                  exact (k_X12_sorted_278 l D hT aT yT) C X (lv_sub hl [2, 3, 0] rfl) hF
              · replace hF := iF c7 hF
                by_cases c8 : (gIA gT 14 v1.toNatClampNeg) = (8 : Int32)
                · replace hF := iT c8 hF
                  refine lv_tableIn (tgt := 284) (off := 207) hx hb dX12_sorted_77 (by rw [c8]; decide) (by rw [c8]; decide) (by rw [c8]; rfl) (by decide) ?_
                  refine lv_iload_n hx hb dX12_sorted_284 rfl (lv_at hl 4 rfl) ?_
                  refine lv_if_ne (tgt := 292) hx hb dX12_sorted_285 (by decide) (fun c => ?_) (fun c => ?_)
                  · replace hF := iF c hF
                    refine lv_iconst (v := (0 : Int32)) hx hb dX12_sorted_292 (by decide) ?_
                    exact (k_X12_sorted_293 l D hT aT yT) C X (lv_sub hl [2, 3] rfl) hF
                  · replace hF := iT c hF
                    refine lv_iconst (v := (1 : Int32)) hx hb dX12_sorted_288 (by decide) ?_
                    refine lv_goto (tgt := 293) hx hb dX12_sorted_289 (by decide) ?_
                    exact (k_X12_sorted_293 l D hT aT yT) C X (lv_sub hl [2, 3] rfl) hF
                · replace hF := iF c8 hF
                  by_cases c9 : (gIA gT 14 v1.toNatClampNeg) = (9 : Int32)
                  · replace hF := iT c9 hF
                    refine lv_tableIn (tgt := 304) (off := 227) hx hb dX12_sorted_77 (by rw [c9]; decide) (by rw [c9]; decide) (by rw [c9]; rfl) (by decide) ?_
                    refine lv_iload_n hx hb dX12_sorted_304 rfl (lv_at hl 4 rfl) ?_
                    refine lv_if_ne (tgt := 312) hx hb dX12_sorted_305 (by decide) (fun c => ?_) (fun c => ?_)
                    · replace hF := iF c hF
                      refine lv_iconst (v := (0 : Int32)) hx hb dX12_sorted_312 (by decide) ?_
                      exact (k_X12_sorted_313 l D hT aT yT) C X (lv_sub hl [2, 3, 4] rfl) hF
                    · replace hF := iT c hF
                      refine lv_iconst (v := (1 : Int32)) hx hb dX12_sorted_308 (by decide) ?_
                      refine lv_goto (tgt := 313) hx hb dX12_sorted_309 (by decide) ?_
                      exact (k_X12_sorted_313 l D hT aT yT) C X (lv_sub hl [2, 3, 4] rfl) hF
                  · replace hF := iF c9 hF
                    by_cases c10 : (gIA gT 14 v1.toNatClampNeg) = (10 : Int32)
                    · replace hF := iT c10 hF
                      refine lv_tableIn (tgt := 358) (off := 281) hx hb dX12_sorted_77 (by rw [c10]; decide) (by rw [c10]; decide) (by rw [c10]; rfl) (by decide) ?_
                      refine lv_iload_n hx hb dX12_sorted_358 rfl (lv_at hl 4 rfl) ?_
                      obtain ⟨q_40, hc_41, hF⟩ := bnd_some hF
                      refine cS_i (As := [.int v2]) (rest := []) C X (c_X12_isNumber l D  v2 q_40 hc_41 _) (va_cwS 1 hts (good_S q9_44 q9_45 q1_9 q9_46) rfl rfl rfl (by decide +kernel) ⟨Nat.le_of_ble_eq_true rfl, Nat.le_of_ble_eq_true rfl⟩) (eK X) eP (eD (A := A)) (eF X) hl.1 rfl rfl (Nat.le_of_ble_eq_true rfl) dX12_sorted_359 ⟨Nat.le_of_ble_eq_true rfl, Nat.le_of_ble_eq_true rfl⟩ (fun t H1 locs1 ht hB hk hS => ?_)
                      have X := Hx_after_none X hk hS
                      clear hk hS ht hB
                      generalize H1 = H at X ⊢
                      generalize locs1 = locs at X ⊢
                      refine lv_istore (lv' := [(5, .int q_40), (4, .int s0), (0, .ref hT), (1, .int v1), (2, .int v2), (3, .int v3)]) hx hb dX12_sorted_362 hl (by decide) rfl (fun ls hl => ?_)
                      refine lv_aload_n hx hb dX12_sorted_364 rfl (lv_at hl 2 rfl) ?_
                      refine va_get (D := D.1) (ci := 12) (v := .ref (aT 16)) (C := RX12) (T := TX12) (N := 114) hx hb hts wi_X12 hown X.1 X.2.1 0 rfl rfl 16 (by decide) (hts _ q6_210) (fun _ h9 => h9) (fl_get (by decide)) dX12_sorted_365 ?_
                      refine lv_iload_n hx hb dX12_sorted_368 rfl (lv_at hl 3 rfl) ?_
                      refine lv_iload_n hx hb dX12_sorted_369 rfl (lv_at hl 4 rfl) ?_
                      obtain ⟨h_42, hF⟩ := grd_some hF
                      refine va_iast (D := D.1) (f := gIA gT 16) hx hb X.1 X.2.1 X.2.2.1 X.2.2.2.1 11 10 rfl rfl (inB_ok h_42) dX12_sorted_370 (fun H locs hP hD hS => ?_)
                      have X : Hx D (tX12 yT) A s H locs (wX12 hT aT yT (sIA gT 16 (upd (gIA gT 16) v1.toNatClampNeg v2))) := Hx_set X (wG_sIA (i := 10) (k := 16) ndX12 rfl rfl) hP hD hS
                      refine lv_aload_n hx hb dX12_sorted_371 rfl (lv_at hl 2 rfl) ?_
                      refine lv_iconst (v := (1 : Int32)) hx hb dX12_sorted_372 (by decide) ?_
                      refine lv_bipush (v := (7 : Int32)) hx hb dX12_sorted_373 (by decide) ?_
                      obtain ⟨q_43, hc_44, hF⟩ := bnd_some hF
                      refine cV_v (As := [.int (1 : Int32), .int (7 : Int32)]) (rest := []) C X (c_X12_gives l D hT aT yT (sIA gT 16 (upd (gIA gT 16) v1.toNatClampNeg v2)) (1 : Int32) (7 : Int32) q_43 hc_44 _) (cwV 2 hts (good_V q9_47 q9_49 q0_105 q1_9 q9_50) rfl rfl rfl (by decide +kernel) ⟨Nat.le_of_ble_eq_true rfl, Nat.le_of_ble_eq_true rfl⟩) (va_recv X.1 X.2.1 (ci := 12) (q0 := 0) rfl rfl) X.1 X.2.1 X.2.2.1 (free_all X) hl.1 rfl rfl (Nat.le_of_ble_eq_true rfl) dX12_sorted_375 ⟨Nat.le_of_ble_eq_true rfl, Nat.le_of_ble_eq_true rfl⟩ (fun t H1 locs1 ht hB hk hS => ?_)
                      have X : Hx D (tX12 yT) A s H1 locs1 (wX12 hT aT yT q_43) := Hx_after_all X ht hB hS
                      clear hk hS ht hB
                      generalize H1 = H at X ⊢
                      generalize locs1 = locs at X ⊢
                      refine lv_goto (tgt := 666) hx hb dX12_sorted_378 (by decide) ?_
                      exact (k_X12_sorted_666 l D hT aT yT) C X (lv_sub hl [2, 3, 0] rfl) hF
                    · replace hF := iF c10 hF
                      by_cases c11 : (gIA gT 14 v1.toNatClampNeg) = (11 : Int32)
                      · replace hF := iT c11 hF
                        refine lv_tableIn (tgt := 381) (off := 304) hx hb dX12_sorted_77 (by rw [c11]; decide) (by rw [c11]; decide) (by rw [c11]; rfl) (by decide) ?_
                        refine lv_iload hx hb dX12_sorted_381 (lv_at hl 1 rfl) ?_
                        refine lv_istore (lv' := [(5, .int s0), (4, .int s0), (0, .ref hT), (1, .int v1), (2, .int v2), (3, .int v3)]) hx hb dX12_sorted_383 hl (by decide) rfl (fun ls hl => ?_)
                        refine lv_aload_n hx hb dX12_sorted_385 rfl (lv_at hl 2 rfl) ?_
                        refine va_get (D := D.1) (ci := 12) (v := .ref (aT 16)) (C := RX12) (T := TX12) (N := 114) hx hb hts wi_X12 hown X.1 X.2.1 0 rfl rfl 16 (by decide) (hts _ q6_210) (fun _ h9 => h9) (fl_get (by decide)) dX12_sorted_386 ?_
                        refine lv_iload_n hx hb dX12_sorted_389 rfl (lv_at hl 3 rfl) ?_
                        refine lv_bipush (v := (8 : Int32)) hx hb dX12_sorted_390 (by decide) ?_
                        refine lv_iload_n hx hb dX12_sorted_392 rfl (lv_at hl 5 rfl) ?_
                        refine lv_imul hx hb dX12_sorted_393 ?_
                        refine lv_iload_n hx hb dX12_sorted_394 rfl (lv_at hl 4 rfl) ?_
                        refine lv_iadd hx hb dX12_sorted_395 ?_
                        obtain ⟨h_45, hF⟩ := grd_some hF
                        refine va_iast (D := D.1) (f := gIA gT 16) hx hb X.1 X.2.1 X.2.2.1 X.2.2.2.1 11 10 rfl rfl (inB_ok h_45) dX12_sorted_396 (fun H locs hP hD hS => ?_)
                        have X : Hx D (tX12 yT) A s H locs (wX12 hT aT yT (sIA gT 16 (upd (gIA gT 16) v1.toNatClampNeg (((8 : Int32) * v3) + v2)))) := Hx_set X (wG_sIA (i := 10) (k := 16) ndX12 rfl rfl) hP hD hS
                        refine lv_aload_n hx hb dX12_sorted_397 rfl (lv_at hl 2 rfl) ?_
                        refine lv_iconst (v := (2 : Int32)) hx hb dX12_sorted_398 (by decide) ?_
                        refine lv_aload_n hx hb dX12_sorted_399 rfl (lv_at hl 2 rfl) ?_
                        refine va_get (D := D.1) (ci := 12) (v := .ref (aT 15)) (C := RX12) (T := TX12) (N := 114) hx hb hts wi_X12 hown X.1 X.2.1 0 rfl rfl 15 (by decide) (hts _ q6_209) (fun _ h9 => h9) (fl_get (by decide)) dX12_sorted_400 ?_
                        refine lv_iload_n hx hb dX12_sorted_403 rfl (lv_at hl 3 rfl) ?_
                        obtain ⟨h_46, hF⟩ := grd_some hF
                        refine va_iald (D := D.1) (f := gIA gT 15) hx hb X.1 X.2.1 10 9 rfl rfl (inB_ok h_46) dX12_sorted_404 ?_
                        refine lv_sipush (v := (215 : Int32)) hx hb dX12_sorted_405 (by decide) ?_
                        refine lv_icmp_ne (tgt := 416) hx hb dX12_sorted_408 (by decide) (fun c => ?_) (fun c => ?_)
                        · replace hF := iF c hF
                          refine lv_iload_n hx hb dX12_sorted_416 rfl (lv_at hl 5 rfl) ?_
                          refine lv_iload_n hx hb dX12_sorted_417 rfl (lv_at hl 4 rfl) ?_
                          obtain ⟨q_47, hc_48, hF⟩ := bnd_some hF
                          refine cS_i (As := [.int v3, .int v2]) (rest := [.int (2 : Int32), .ref hT]) C X (c_X12_joined l D  v3 v2 q_47 hc_48 _) (va_cwS 2 hts (good_S q9_55 q9_56 q1_9 q9_57) rfl rfl rfl (by decide +kernel) ⟨Nat.le_of_ble_eq_true rfl, Nat.le_of_ble_eq_true rfl⟩) (eK X) eP (eD (A := A)) (eF X) hl.1 rfl rfl (Nat.le_of_ble_eq_true rfl) dX12_sorted_418 ⟨Nat.le_of_ble_eq_true rfl, Nat.le_of_ble_eq_true rfl⟩ (fun t H1 locs1 ht hB hk hS => ?_)
                          have X := Hx_after_none X hk hS
                          clear hk hS ht hB
                          generalize H1 = H at X ⊢
                          generalize locs1 = locs at X ⊢
                          exact (k_X12_sorted_421 l D hT aT yT) C X (lv_sub hl [2, 3, 0] rfl) hF
                        · replace hF := iT c hF
                          refine lv_bipush (v := (7 : Int32)) hx hb dX12_sorted_411 (by decide) ?_
                          refine lv_goto (tgt := 421) hx hb dX12_sorted_413 (by decide) ?_
                          exact (k_X12_sorted_421 l D hT aT yT) C X (lv_sub hl [2, 3, 0] rfl) hF
                      · replace hF := iF c11 hF
                        by_cases c12 : (gIA gT 14 v1.toNatClampNeg) = (12 : Int32)
                        · replace hF := iT c12 hF
                          refine lv_tableIn (tgt := 427) (off := 350) hx hb dX12_sorted_77 (by rw [c12]; decide) (by rw [c12]; decide) (by rw [c12]; rfl) (by decide) ?_
                          refine lv_aload_n hx hb dX12_sorted_427 rfl (lv_at hl 2 rfl) ?_
                          refine va_get (D := D.1) (ci := 12) (v := .ref (aT 15)) (C := RX12) (T := TX12) (N := 114) hx hb hts wi_X12 hown X.1 X.2.1 0 rfl rfl 15 (by decide) (hts _ q6_209) (fun _ h9 => h9) (fl_get (by decide)) dX12_sorted_428 ?_
                          refine lv_iload_n hx hb dX12_sorted_431 rfl (lv_at hl 3 rfl) ?_
                          obtain ⟨h_51, hF⟩ := grd_some hF
                          refine va_iald (D := D.1) (f := gIA gT 15) hx hb X.1 X.2.1 10 9 rfl rfl (inB_ok h_51) dX12_sorted_432 ?_
                          refine lv_istore (lv' := [(6, .int (gIA gT 15 v1.toNatClampNeg)), (5, .int (1 : Int32)), (4, .int s0), (0, .ref hT), (1, .int v1), (2, .int v2), (3, .int v3)]) hx hb dX12_sorted_433 hl (by decide) rfl (fun ls hl => ?_)
                          refine lv_iload hx hb dX12_sorted_435 (lv_at hl 0 rfl) ?_
                          refine lv_sipush (v := (189 : Int32)) hx hb dX12_sorted_437 (by decide) ?_
                          refine lv_icmp_eq (tgt := 451) hx hb dX12_sorted_440 (by decide) (fun c => ?_) (fun c => ?_)
                          · replace hF := iT c hF
                            exact (k_X12_sorted_451 l D hT aT yT) C X (lv_sub hl [3, 4, 5, 6, 2, 0] rfl) hF
                          · replace hF := iF c hF
                            refine lv_iload hx hb dX12_sorted_443 (lv_at hl 0 rfl) ?_
                            refine lv_sipush (v := (161 : Int32)) hx hb dX12_sorted_445 (by decide) ?_
                            refine lv_icmp_ne (tgt := 455) hx hb dX12_sorted_448 (by decide) (fun c => ?_) (fun c => ?_)
                            · replace hF := iF c hF
                              refine lv_iconst (v := (0 : Int32)) hx hb dX12_sorted_455 (by decide) ?_
                              exact (k_X12_sorted_456 l D hT aT yT) C X (lv_sub hl [3, 4, 5, 6, 2, 0] rfl) hF
                            · replace hF := iT c hF
                              exact (k_X12_sorted_451 l D hT aT yT) C X (lv_sub hl [3, 4, 5, 6, 2, 0] rfl) hF
                        · replace hF := iF c12 hF
                          by_cases c13 : (gIA gT 14 v1.toNatClampNeg) = (13 : Int32)
                          · replace hF := iT c13 hF
                            refine lv_tableIn (tgt := 666) (off := 589) hx hb dX12_sorted_77 (by rw [c13]; decide) (by rw [c13]; decide) (by rw [c13]; rfl) (by decide) ?_
                            exact (k_X12_sorted_666 l D hT aT yT) C X (lv_sub hl [2, 3, 0] rfl) hF
                          · replace hF := iF c13 hF
                            by_cases c14 : (gIA gT 14 v1.toNatClampNeg) = (14 : Int32)
                            · replace hF := iT c14 hF
                              refine lv_tableIn (tgt := 547) (off := 470) hx hb dX12_sorted_77 (by rw [c14]; decide) (by rw [c14]; decide) (by rw [c14]; rfl) (by decide) ?_
                              refine lv_iload_n hx hb dX12_sorted_547 rfl (lv_at hl 4 rfl) ?_
                              refine lv_if_ne (tgt := 559) hx hb dX12_sorted_548 (by decide) (fun c => ?_) (fun c => ?_)
                              · replace hF := iF c hF
                                exact (k_X12_sorted_559 l D hT aT yT) C X (lv_sub hl [2, 3] rfl) hF
                              · replace hF := iT c hF
                                refine lv_iload_n hx hb dX12_sorted_551 rfl (lv_at hl 5 rfl) ?_
                                refine lv_if_ne (tgt := 559) hx hb dX12_sorted_552 (by decide) (fun c => ?_) (fun c => ?_)
                                · replace hF := iF c hF
                                  exact (k_X12_sorted_559 l D hT aT yT) C X (lv_sub hl [2, 3] rfl) hF
                                · replace hF := iT c hF
                                  refine lv_iconst (v := (1 : Int32)) hx hb dX12_sorted_555 (by decide) ?_
                                  refine lv_goto (tgt := 560) hx hb dX12_sorted_556 (by decide) ?_
                                  exact (k_X12_sorted_560 l D hT aT yT) C X (lv_sub hl [2, 3] rfl) hF
                            · replace hF := iF c14 hF
                              by_cases c15 : (gIA gT 14 v1.toNatClampNeg) = (15 : Int32)
                              · replace hF := iT c15 hF
                                refine lv_tableIn (tgt := 666) (off := 589) hx hb dX12_sorted_77 (by rw [c15]; decide) (by rw [c15]; decide) (by rw [c15]; rfl) (by decide) ?_
                                exact (k_X12_sorted_666 l D hT aT yT) C X (lv_sub hl [2, 3, 0] rfl) hF
                              · replace hF := iF c15 hF
                                by_cases c16 : (gIA gT 14 v1.toNatClampNeg) = (16 : Int32)
                                · replace hF := iT c16 hF
                                  refine lv_tableIn (tgt := 547) (off := 470) hx hb dX12_sorted_77 (by rw [c16]; decide) (by rw [c16]; decide) (by rw [c16]; rfl) (by decide) ?_
                                  refine lv_iload_n hx hb dX12_sorted_547 rfl (lv_at hl 4 rfl) ?_
                                  refine lv_if_ne (tgt := 559) hx hb dX12_sorted_548 (by decide) (fun c => ?_) (fun c => ?_)
                                  · replace hF := iF c hF
                                    exact (k_X12_sorted_559 l D hT aT yT) C X (lv_sub hl [2, 3] rfl) hF
                                  · replace hF := iT c hF
                                    refine lv_iload_n hx hb dX12_sorted_551 rfl (lv_at hl 5 rfl) ?_
                                    refine lv_if_ne (tgt := 559) hx hb dX12_sorted_552 (by decide) (fun c => ?_) (fun c => ?_)
                                    · replace hF := iF c hF
                                      exact (k_X12_sorted_559 l D hT aT yT) C X (lv_sub hl [2, 3] rfl) hF
                                    · replace hF := iT c hF
                                      refine lv_iconst (v := (1 : Int32)) hx hb dX12_sorted_555 (by decide) ?_
                                      refine lv_goto (tgt := 560) hx hb dX12_sorted_556 (by decide) ?_
                                      exact (k_X12_sorted_560 l D hT aT yT) C X (lv_sub hl [2, 3] rfl) hF
                                · replace hF := iF c16 hF
                                  by_cases c17 : (gIA gT 14 v1.toNatClampNeg) = (17 : Int32)
                                  · replace hF := iT c17 hF
                                    refine lv_tableIn (tgt := 666) (off := 589) hx hb dX12_sorted_77 (by rw [c17]; decide) (by rw [c17]; decide) (by rw [c17]; rfl) (by decide) ?_
                                    exact (k_X12_sorted_666 l D hT aT yT) C X (lv_sub hl [2, 3, 0] rfl) hF
                                  · replace hF := iF c17 hF
                                    by_cases c18 : (gIA gT 14 v1.toNatClampNeg) = (18 : Int32)
                                    · replace hF := iT c18 hF
                                      refine lv_tableIn (tgt := 666) (off := 589) hx hb dX12_sorted_77 (by rw [c18]; decide) (by rw [c18]; decide) (by rw [c18]; rfl) (by decide) ?_
                                      exact (k_X12_sorted_666 l D hT aT yT) C X (lv_sub hl [2, 3, 0] rfl) hF
                                    · replace hF := iF c18 hF
                                      by_cases c19 : (gIA gT 14 v1.toNatClampNeg) = (19 : Int32)
                                      · replace hF := iT c19 hF
                                        refine lv_tableIn (tgt := 571) (off := 494) hx hb dX12_sorted_77 (by rw [c19]; decide) (by rw [c19]; decide) (by rw [c19]; rfl) (by decide) ?_
                                        refine lv_aload_n hx hb dX12_sorted_571 rfl (lv_at hl 2 rfl) ?_
                                        refine va_get (D := D.1) (ci := 12) (v := .ref (aT 57)) (C := RX12) (T := TX12) (N := 114) hx hb hts wi_X12 hown X.1 X.2.1 0 rfl rfl 57 (by decide) (hts _ q7_11) (fun _ h9 => h9) (fl_get (by decide)) dX12_sorted_572 ?_
                                        refine lv_aload_n hx hb dX12_sorted_575 rfl (lv_at hl 2 rfl) ?_
                                        refine va_get (D := D.1) (ci := 12) (v := .int (gI gT 58)) (C := RX12) (T := TX12) (N := 114) hx hb hts wi_X12 hown X.1 X.2.1 0 rfl rfl 58 (by decide) (hts _ q7_12) (fun _ h9 => h9) (fl_get (by decide)) dX12_sorted_576 ?_
                                        refine lv_iconst (v := (3 : Int32)) hx hb dX12_sorted_579 (by decide) ?_
                                        refine lv_isub hx hb dX12_sorted_580 ?_
                                        obtain ⟨h_59, hF⟩ := grd_some hF
                                        refine va_iald (D := D.1) (f := gIA gT 57) hx hb X.1 X.2.1 39 38 rfl rfl (inB_ok h_59) dX12_sorted_581 ?_
                                        refine lv_istore (lv' := [(6, .int (gIA gT 57 ((gI gT 58) - (3 : Int32)).toNatClampNeg)), (5, .int (1 : Int32)), (4, .int s0), (0, .ref hT), (1, .int v1), (2, .int v2), (3, .int v3)]) hx hb dX12_sorted_582 hl (by decide) rfl (fun ls hl => ?_)
                                        refine lv_iload hx hb dX12_sorted_584 (lv_at hl 0 rfl) ?_
                                        refine lv_if_ne (tgt := 606) hx hb dX12_sorted_586 (by decide) (fun c => ?_) (fun c => ?_)
                                        · replace hF := iF c hF
                                          exact (k_X12_sorted_606 l D hT aT yT) C X (lv_sub hl [3, 4, 5, 6, 2] rfl) hF
                                        · replace hF := iT c hF
                                          refine lv_iload hx hb dX12_sorted_589 (lv_at hl 2 rfl) ?_
                                          refine lv_if_ne (tgt := 602) hx hb dX12_sorted_591 (by decide) (fun c => ?_) (fun c => ?_)
                                          · replace hF := iF c hF
                                            exact (k_X12_sorted_602 l D hT aT yT) C X (lv_sub hl [3, 4, 5, 6, 2] rfl) hF
                                          · replace hF := iT c hF
                                            refine lv_iload_n hx hb dX12_sorted_594 rfl (lv_at hl 5 rfl) ?_
                                            refine lv_if_ne (tgt := 606) hx hb dX12_sorted_595 (by decide) (fun c => ?_) (fun c => ?_)
                                            · replace hF := iF c hF
                                              exact (k_X12_sorted_606 l D hT aT yT) C X (lv_sub hl [3, 4, 5, 6, 2] rfl) hF
                                            · replace hF := iT c hF
                                              refine lv_iload_n hx hb dX12_sorted_598 rfl (lv_at hl 6 rfl) ?_
                                              refine lv_if_ne (tgt := 606) hx hb dX12_sorted_599 (by decide) (fun c => ?_) (fun c => ?_)
                                              · replace hF := iF c hF
                                                exact (k_X12_sorted_606 l D hT aT yT) C X (lv_sub hl [3, 4, 5, 6, 2] rfl) hF
                                              · replace hF := iT c hF
                                                exact (k_X12_sorted_602 l D hT aT yT) C X (lv_sub hl [3, 4, 5, 6, 2] rfl) hF
                                      · replace hF := iF c19 hF
                                        refine lv_tableOut (tgt := 666) hx hb dX12_sorted_77 (tbl_out (1) (19) 19 (by decide) ⟨tne c1 (by decide), ⟨tne c2 (by decide), ⟨tne c3 (by decide), ⟨tne c4 (by decide), ⟨tne c5 (by decide), ⟨tne c6 (by decide), ⟨tne c7 (by decide), ⟨tne c8 (by decide), ⟨tne c9 (by decide), ⟨tne c10 (by decide), ⟨tne c11 (by decide), ⟨tne c12 (by decide), ⟨tne c13 (by decide), ⟨tne c14 (by decide), ⟨tne c15 (by decide), ⟨tne c16 (by decide), ⟨tne c17 (by decide), ⟨tne c18 (by decide), ⟨tne c19 (by decide), trivial⟩⟩⟩⟩⟩⟩⟩⟩⟩⟩⟩⟩⟩⟩⟩⟩⟩⟩⟩) (by decide) ?_
                                        exact (k_X12_sorted_666 l D hT aT yT) C X (lv_sub hl [2, 3, 0] rfl) hF
set_option maxHeartbeats 4000000 in
set_option maxRecDepth 100000 in
theorem k_X12_sorted_65 (l : Launch) (D : Dx) (hT : Nat) (aT : Nat → Nat) (yT : Nat → ClassId) : S_X12_sorted_65 l D hT aT yT (b_X12_sorted_65) := by
  intro p e s m args below meth c H locs A ls gT v1 v2 v3 q C X hl hF
  obtain ⟨hx, hb, hr, hml, hown, hts, hlk⟩ := id C
  unfold b_X12_sorted_65 at hF
  refine lv_iconst (v := (0 : Int32)) hx hb dX12_sorted_65 (by decide) ?_
  exact (k_X12_sorted_66 l D hT aT yT) C X (lv_sub hl [0, 1, 2, 3] rfl) hF
set_option maxHeartbeats 4000000 in
set_option maxRecDepth 100000 in
theorem k_X12_sorted_46 (l : Launch) (D : Dx) (hT : Nat) (aT : Nat → Nat) (yT : Nat → ClassId) : S_X12_sorted_46 l D hT aT yT (b_X12_sorted_46) := by
  intro p e s m args below meth c H locs A ls gT v1 v2 s0 q C X hl hF
  obtain ⟨hx, hb, hr, hml, hown, hts, hlk⟩ := id C
  unfold b_X12_sorted_46 at hF
  refine lv_istore_n (lv' := [(3, .int s0), (0, .ref hT), (1, .int v1), (2, .int v2)]) hx hb dX12_sorted_46 rfl hl (by decide) rfl (fun ls hl => ?_)
  refine lv_iload_n hx hb dX12_sorted_47 rfl (lv_at hl 3 rfl) ?_
  obtain ⟨q_1, hc_2, hF⟩ := bnd_some hF
  refine cS_i (As := [.int v2]) (rest := []) C X (c_X12_isNumber l D  v2 q_1 hc_2 _) (va_cwS 1 hts (good_S q9_44 q9_45 q1_9 q9_46) rfl rfl rfl (by decide +kernel) ⟨Nat.le_of_ble_eq_true rfl, Nat.le_of_ble_eq_true rfl⟩) (eK X) eP (eD (A := A)) (eF X) hl.1 rfl rfl (Nat.le_of_ble_eq_true rfl) dX12_sorted_48 ⟨Nat.le_of_ble_eq_true rfl, Nat.le_of_ble_eq_true rfl⟩ (fun t H1 locs1 ht hB hk hS => ?_)
  have X := Hx_after_none X hk hS
  clear hk hS ht hB
  generalize H1 = H at X ⊢
  generalize locs1 = locs at X ⊢
  refine lv_if_eq (tgt := 65) hx hb dX12_sorted_51 (by decide) (fun c => ?_) (fun c => ?_)
  · replace hF := iT c hF
    exact (k_X12_sorted_65 l D hT aT yT) C X (lv_sub hl [1, 2, 3, 0] rfl) hF
  · replace hF := iF c hF
    refine lv_iload_n hx hb dX12_sorted_54 rfl (lv_at hl 0 rfl) ?_
    obtain ⟨q_67, hc_68, hF⟩ := bnd_some hF
    refine cS_i (As := [.int s0]) (rest := []) C X (c_X12_isNumber l D  s0 q_67 hc_68 _) (va_cwS 1 hts (good_S q9_44 q9_45 q1_9 q9_46) rfl rfl rfl (by decide +kernel) ⟨Nat.le_of_ble_eq_true rfl, Nat.le_of_ble_eq_true rfl⟩) (eK X) eP (eD (A := A)) (eF X) hl.1 rfl rfl (Nat.le_of_ble_eq_true rfl) dX12_sorted_55 ⟨Nat.le_of_ble_eq_true rfl, Nat.le_of_ble_eq_true rfl⟩ (fun t H1 locs1 ht hB hk hS => ?_)
    have X := Hx_after_none X hk hS
    clear hk hS ht hB
    generalize H1 = H at X ⊢
    generalize locs1 = locs at X ⊢
    refine lv_if_eq (tgt := 65) hx hb dX12_sorted_58 (by decide) (fun c => ?_) (fun c => ?_)
    · replace hF := iT c hF
      exact (k_X12_sorted_65 l D hT aT yT) C X (lv_sub hl [1, 2, 3, 0] rfl) hF
    · replace hF := iF c hF
      refine lv_iconst (v := (1 : Int32)) hx hb dX12_sorted_61 (by decide) ?_
      refine lv_goto (tgt := 66) hx hb dX12_sorted_62 (by decide) ?_
      exact (k_X12_sorted_66 l D hT aT yT) C X (lv_sub hl [1, 2, 3, 0] rfl) hF
set_option maxHeartbeats 4000000 in
set_option maxRecDepth 100000 in
theorem k_X12_sorted_22 (l : Launch) (D : Dx) (hT : Nat) (aT : Nat → Nat) (yT : Nat → ClassId) : S_X12_sorted_22 l D hT aT yT (b_X12_sorted_22) := by
  intro p e s m args below meth c H locs A ls gT v1 s0 q C X hl hF
  obtain ⟨hx, hb, hr, hml, hown, hts, hlk⟩ := id C
  unfold b_X12_sorted_22 at hF
  refine lv_istore_n (lv' := [(2, .int s0), (0, .ref hT), (1, .int v1)]) hx hb dX12_sorted_22 rfl hl (by decide) rfl (fun ls hl => ?_)
  refine lv_aload_n hx hb dX12_sorted_23 rfl (lv_at hl 1 rfl) ?_
  refine va_get (D := D.1) (ci := 12) (v := .int (gI gT 58)) (C := RX12) (T := TX12) (N := 114) hx hb hts wi_X12 hown X.1 X.2.1 0 rfl rfl 58 (by decide) (hts _ q7_12) (fun _ h9 => h9) (fl_get (by decide)) dX12_sorted_24 ?_
  refine lv_iconst (v := (1 : Int32)) hx hb dX12_sorted_27 (by decide) ?_
  refine lv_icmp_le (tgt := 45) hx hb dX12_sorted_28 (by decide) (fun c => ?_) (fun c => ?_)
  · replace hF := iT c hF
    refine lv_iconst (v := (0 : Int32)) hx hb dX12_sorted_45 (by decide) ?_
    exact (k_X12_sorted_46 l D hT aT yT) C X (lv_sub hl [1, 2, 0] rfl) hF
  · replace hF := iF c hF
    refine lv_aload_n hx hb dX12_sorted_31 rfl (lv_at hl 1 rfl) ?_
    refine va_get (D := D.1) (ci := 12) (v := .ref (aT 57)) (C := RX12) (T := TX12) (N := 114) hx hb hts wi_X12 hown X.1 X.2.1 0 rfl rfl 57 (by decide) (hts _ q7_11) (fun _ h9 => h9) (fl_get (by decide)) dX12_sorted_32 ?_
    refine lv_aload_n hx hb dX12_sorted_35 rfl (lv_at hl 1 rfl) ?_
    refine va_get (D := D.1) (ci := 12) (v := .int (gI gT 58)) (C := RX12) (T := TX12) (N := 114) hx hb hts wi_X12 hown X.1 X.2.1 0 rfl rfl 58 (by decide) (hts _ q7_12) (fun _ h9 => h9) (fl_get (by decide)) dX12_sorted_36 ?_
    refine lv_iconst (v := (2 : Int32)) hx hb dX12_sorted_39 (by decide) ?_
    refine lv_isub hx hb dX12_sorted_40 ?_
    obtain ⟨h_69, hF⟩ := grd_some hF
    refine va_iald (D := D.1) (f := gIA gT 57) hx hb X.1 X.2.1 39 38 rfl rfl (inB_ok h_69) dX12_sorted_41 ?_
    refine lv_goto (tgt := 46) hx hb dX12_sorted_42 (by decide) ?_
    exact (k_X12_sorted_46 l D hT aT yT) C X (lv_sub hl [1, 2, 0] rfl) hF
set_option maxHeartbeats 4000000 in
set_option maxRecDepth 100000 in
theorem c_X12_sorted (l : Launch) (D : Dx) (hT : Nat) (aT : Nat → Nat) (yT : Nat → ClassId) (gT : Gs) (x0 : Int32) (q : Int32 × Gs) (hF : f_X12_sorted gT x0 = some q) (sz : Nat) : Met l yX12_sorted (ws_ yX12_sorted cX12_sorted 8 (some .boolean)) R_X12_sorted (PC D (tX12 yT) [.ref hT, .int x0] (wX12 hT aT yT gT) sz) (QI D (va_A (wX12 hT aT yT gT) sz) (wX12 hT aT yT q.2) q.1) 0 0 (va_A (wX12 hT aT yT gT) sz) := by
  refine Met.ofW (cc := cX12_sorted) (maxL := 8) (ret := (some .boolean)) (by decide) rfl ?_
  intro p e s m args below meth c s₁ B hml hv
  obtain ⟨rfl, hsz, hP, hK, hD, hN⟩ := hv
  subst hsz
  have C : Cx p s m _ meth c cX12_sorted (some .boolean) 8 RX12 lw_all := Cx_of B hml
  have X := Hx_start hP hK hD hN
  obtain ⟨hx, hb, hr, -, hown, hts, hlk⟩ := id C
  generalize va_A (wX12 hT aT yT gT) s.heap.size = A at X ⊢
  have hl := lv_entry ([.ref hT, .int x0]) (n := 8) (Nat.le_of_ble_eq_true rfl)
  rw [lg_entry_eq]
  generalize (lg_sl ([.ref hT, .int x0]) ++ List.replicate (8 - (lg_sl ([.ref hT, .int x0])).length) Slot.unset).toArray = ls at hl ⊢
  have hl : lv_has ls 8 [(0, .ref hT), (1, .int x0)] := hl
  unfold f_X12_sorted at hF
  refine lv_aload_n hx hb dX12_sorted_0 rfl (lv_at hl 0 rfl) ?_
  refine va_get (D := D.1) (ci := 12) (v := .int (gI gT 58)) (C := RX12) (T := TX12) (N := 114) hx hb hts wi_X12 hown X.1 X.2.1 0 rfl rfl 58 (by decide) (hts _ q7_12) (fun _ h9 => h9) (fl_get (by decide)) dX12_sorted_1 ?_
  refine lv_if_le (tgt := 21) hx hb dX12_sorted_4 (by decide) (fun c => ?_) (fun c => ?_)
  · replace hF := iT c hF
    refine lv_iconst (v := (0 : Int32)) hx hb dX12_sorted_21 (by decide) ?_
    exact (k_X12_sorted_22 l D hT aT yT) C X (lv_sub hl [0, 1] rfl) hF
  · replace hF := iF c hF
    refine lv_aload_n hx hb dX12_sorted_7 rfl (lv_at hl 0 rfl) ?_
    refine va_get (D := D.1) (ci := 12) (v := .ref (aT 57)) (C := RX12) (T := TX12) (N := 114) hx hb hts wi_X12 hown X.1 X.2.1 0 rfl rfl 57 (by decide) (hts _ q7_11) (fun _ h9 => h9) (fl_get (by decide)) dX12_sorted_8 ?_
    refine lv_aload_n hx hb dX12_sorted_11 rfl (lv_at hl 0 rfl) ?_
    refine va_get (D := D.1) (ci := 12) (v := .int (gI gT 58)) (C := RX12) (T := TX12) (N := 114) hx hb hts wi_X12 hown X.1 X.2.1 0 rfl rfl 58 (by decide) (hts _ q7_12) (fun _ h9 => h9) (fl_get (by decide)) dX12_sorted_12 ?_
    refine lv_iconst (v := (1 : Int32)) hx hb dX12_sorted_15 (by decide) ?_
    refine lv_isub hx hb dX12_sorted_16 ?_
    obtain ⟨h_70, hF⟩ := grd_some hF
    refine va_iald (D := D.1) (f := gIA gT 57) hx hb X.1 X.2.1 39 38 rfl rfl (inB_ok h_70) dX12_sorted_17 ?_
    refine lv_goto (tgt := 22) hx hb dX12_sorted_18 (by decide) ?_
    exact (k_X12_sorted_22 l D hT aT yT) C X (lv_sub hl [0, 1] rfl) hF

/-! ### X12_judged -/
theorem dX12_judged_0 : decode cX12_judged 0 = .ok (.aload_n 0, 1) := by decide +kernel
theorem dX12_judged_1 : decode cX12_judged 1 = .ok (.iconst 0, 1) := by decide +kernel
theorem dX12_judged_2 : decode cX12_judged 2 = .ok (.putfield 232, 3) := by decide +kernel
theorem dX12_judged_5 : decode cX12_judged 5 = .ok (.iload_n 1, 1) := by decide +kernel
theorem dX12_judged_6 : decode cX12_judged 6 = .ok (.istore_n 3, 1) := by decide +kernel
theorem dX12_judged_7 : decode cX12_judged 7 = .ok (.iload_n 3, 1) := by decide +kernel
theorem dX12_judged_8 : decode cX12_judged 8 = .ok (.iload_n 2, 1) := by decide +kernel
theorem dX12_judged_9 : decode cX12_judged 9 = .ok (.if_icmp .ge 19, 3) := by decide +kernel
theorem dX12_judged_12 : decode cX12_judged 12 = .ok (.aload_n 0, 1) := by decide +kernel
theorem dX12_judged_13 : decode cX12_judged 13 = .ok (.iload_n 3, 1) := by decide +kernel
theorem dX12_judged_14 : decode cX12_judged 14 = .ok (.invokevirtual 630, 3) := by decide +kernel
theorem dX12_judged_17 : decode cX12_judged 17 = .ok (.ifCond .ne 5, 3) := by decide +kernel
theorem dX12_judged_20 : decode cX12_judged 20 = .ok (.iconst (-1), 1) := by decide +kernel
theorem dX12_judged_21 : decode cX12_judged 21 = .ok (.ireturn, 1) := by decide +kernel
theorem dX12_judged_22 : decode cX12_judged 22 = .ok (.iinc 3 1, 3) := by decide +kernel
theorem dX12_judged_25 : decode cX12_judged 25 = .ok (.goto (-18), 3) := by decide +kernel
theorem dX12_judged_28 : decode cX12_judged 28 = .ok (.aload_n 0, 1) := by decide +kernel
theorem dX12_judged_29 : decode cX12_judged 29 = .ok (.getfield 229, 3) := by decide +kernel
theorem dX12_judged_32 : decode cX12_judged 32 = .ok (.iconst 0, 1) := by decide +kernel
theorem dX12_judged_33 : decode cX12_judged 33 = .ok (.iaload, 1) := by decide +kernel
theorem dX12_judged_34 : decode cX12_judged 34 = .ok (.ireturn, 1) := by decide +kernel
abbrev R_X12_judged : Room := ({ frames := 2, cells := 0, slots := 0, locals := 49 } : Room)
def h_X12_judged_7 (n : Nat) (rec : (Gs → Int32 → Int32 → Option (Int32 × Gs))) (gT : Gs) (v2 : Int32) (v3 : Int32) : Option (Int32 × Gs) :=
  if v2 ≤ v3 then (grd (inB (0 : Int32) 400) (some (gIA gT 57 (0 : Int32).toNatClampNeg, gT))) else (bnd (f_X12_sorted gT v3) (fun q_2 => if q_2.1 = 0 then (some ((-1 : Int32), q_2.2)) else (rec q_2.2 v2 (v3 + (1 : Int32)))))
def L_X12_judged (n : Nat) : Nat → (Gs → Int32 → Int32 → Option (Int32 × Gs))
  | 0 => ((fun _ _ _ => none))
  | k + 1 => (h_X12_judged_7 n (L_X12_judged n k))
def f_X12_judged (n : Nat) (gT : Gs) (x0 : Int32) (x1 : Int32) : Option (Int32 × Gs) :=
  (L_X12_judged n n) (sI gT 58 (0 : Int32)) x1 x0
def S_X12_judged_7 (l : Launch) (D : Dx) (hT : Nat) (aT : Nat → Nat) (yT : Nat → ClassId) (fn : Gs → Int32 → Int32 → Option (Int32 × Gs)) : Prop :=
  ∀ {p : Program} {e : Env} {s : State} {m : MethodId} {args : Array Value} {below : List Frame} {meth : Method} {c : Code} {H : Heap} {locs : List Loc} {A : Nat → Prop} {ls : Array Slot} {gT : Gs} {v2 : Int32} {v3 : Int32} {q : Int32 × Gs}, Cx p s m args meth c cX12_judged (some .int) 4 RX12 lw_all → Hx D (tX12 yT) A s H locs (wX12 hT aT yT gT) → lv_has ls 4 [(0, .ref hT), (2, .int v2), (3, .int v3)] → fn gT v2 v3 = some q → W p l e R_X12_judged s m args below meth c H locs 0 0 (MQ below (QI D A (wX12 hT aT yT q.2) q.1) args s 0 0 A) (F0 m 7 ls [])
def SH_X12_judged (l : Launch) (D : Dx) (hT : Nat) (aT : Nat → Nat) (yT : Nat → ClassId) (rec : (Gs → Int32 → Int32 → Option (Int32 × Gs))) : Prop := S_X12_judged_7 l D hT aT yT rec
set_option maxHeartbeats 4000000 in
set_option maxRecDepth 100000 in
theorem k_X12_judged_7 (l : Launch) (D : Dx) (hT : Nat) (aT : Nat → Nat) (yT : Nat → ClassId) (n : Nat) (rec : (Gs → Int32 → Int32 → Option (Int32 × Gs))) (IH : SH_X12_judged l D hT aT yT rec) : S_X12_judged_7 l D hT aT yT (h_X12_judged_7 n rec) := by
  intro p e s m args below meth c H locs A ls gT v2 v3 q C X hl hF
  obtain ⟨hx, hb, hr, hml, hown, hts, hlk⟩ := id C
  unfold h_X12_judged_7 at hF
  refine lv_iload_n hx hb dX12_judged_7 rfl (lv_at hl 2 rfl) ?_
  refine lv_iload_n hx hb dX12_judged_8 rfl (lv_at hl 1 rfl) ?_
  refine lv_icmp_ge (tgt := 28) hx hb dX12_judged_9 (by decide) (fun c => ?_) (fun c => ?_)
  · replace hF := iT c hF
    refine lv_aload_n hx hb dX12_judged_28 rfl (lv_at hl 0 rfl) ?_
    refine va_get (D := D.1) (ci := 12) (v := .ref (aT 57)) (C := RX12) (T := TX12) (N := 114) hx hb hts wi_X12 hown X.1 X.2.1 0 rfl rfl 57 (by decide) (hts _ q7_11) (fun _ h9 => h9) (fl_get (by decide)) dX12_judged_29 ?_
    refine lv_iconst (v := (0 : Int32)) hx hb dX12_judged_32 (by decide) ?_
    obtain ⟨h_1, hF⟩ := grd_some hF
    refine va_iald (D := D.1) (f := gIA gT 57) hx hb X.1 X.2.1 39 38 rfl rfl (inB_ok h_1) dX12_judged_33 ?_
    have hq := Option.some.inj hF
    subst hq
    exact rt_i C X dX12_judged_34
  · replace hF := iF c hF
    refine lv_aload_n hx hb dX12_judged_12 rfl (lv_at hl 0 rfl) ?_
    refine lv_iload_n hx hb dX12_judged_13 rfl (lv_at hl 2 rfl) ?_
    obtain ⟨q_2, hc_3, hF⟩ := bnd_some hF
    refine cV_i (As := [.int v3]) (rest := []) C X (c_X12_sorted l D hT aT yT gT v3 q_2 hc_3 _) (cwV 1 hts (good_V q9_40 q9_42 q0_104 q1_9 q9_43) rfl rfl rfl (by decide +kernel) ⟨Nat.le_of_ble_eq_true rfl, Nat.le_of_ble_eq_true rfl⟩) (va_recv X.1 X.2.1 (ci := 12) (q0 := 0) rfl rfl) X.1 X.2.1 X.2.2.1 (free_all X) hl.1 rfl rfl (Nat.le_of_ble_eq_true rfl) dX12_judged_14 ⟨Nat.le_of_ble_eq_true rfl, Nat.le_of_ble_eq_true rfl⟩ (fun t H1 locs1 ht hB hk hS => ?_)
    have X : Hx D (tX12 yT) A s H1 locs1 (wX12 hT aT yT q_2.2) := Hx_after_all X ht hB hS
    clear hk hS ht hB
    generalize H1 = H at X ⊢
    generalize locs1 = locs at X ⊢
    refine lv_if_ne (tgt := 22) hx hb dX12_judged_17 (by decide) (fun c => ?_) (fun c => ?_)
    · replace hF := iF c hF
      refine lv_iinc (v := v3 + (1 : Int32)) (lv' := [(3, .int (v3 + (1 : Int32))), (0, .ref hT), (2, .int v2)]) hx hb dX12_judged_22 hl (k := 2) rfl rfl (by decide) rfl (fun ls hl => ?_)
      refine lv_goto (tgt := 7) hx hb dX12_judged_25 (by decide) ?_
      exact IH C X (lv_sub hl [1, 2, 0] rfl) hF
    · replace hF := iT c hF
      refine lv_iconst (v := (-1 : Int32)) hx hb dX12_judged_20 (by decide) ?_
      have hq := Option.some.inj hF
      subst hq
      exact rt_i C X dX12_judged_21
theorem kL_X12_judged (l : Launch) (D : Dx) (hT : Nat) (aT : Nat → Nat) (yT : Nat → ClassId) (n : Nat) : ∀ k, SH_X12_judged l D hT aT yT (L_X12_judged n k)
  | 0 => fun _ _ _ h => by cases h
  | k + 1 => k_X12_judged_7 l D hT aT yT n _ (kL_X12_judged l D hT aT yT n k)
set_option maxHeartbeats 4000000 in
set_option maxRecDepth 100000 in
theorem c_X12_judged (l : Launch) (D : Dx) (hT : Nat) (aT : Nat → Nat) (yT : Nat → ClassId) (n : Nat) (gT : Gs) (x0 : Int32) (x1 : Int32) (q : Int32 × Gs) (hF : f_X12_judged n gT x0 x1 = some q) (sz : Nat) : Met l yX12_judged (ws_ yX12_judged cX12_judged 4 (some .int)) R_X12_judged (PC D (tX12 yT) [.ref hT, .int x0, .int x1] (wX12 hT aT yT gT) sz) (QI D (va_A (wX12 hT aT yT gT) sz) (wX12 hT aT yT q.2) q.1) 0 0 (va_A (wX12 hT aT yT gT) sz) := by
  refine Met.ofW (cc := cX12_judged) (maxL := 4) (ret := (some .int)) (by decide) rfl ?_
  intro p e s m args below meth c s₁ B hml hv
  obtain ⟨rfl, hsz, hP, hK, hD, hN⟩ := hv
  subst hsz
  have C : Cx p s m _ meth c cX12_judged (some .int) 4 RX12 lw_all := Cx_of B hml
  have X := Hx_start hP hK hD hN
  obtain ⟨hx, hb, hr, -, hown, hts, hlk⟩ := id C
  generalize va_A (wX12 hT aT yT gT) s.heap.size = A at X ⊢
  have hl := lv_entry ([.ref hT, .int x0, .int x1]) (n := 4) (Nat.le_of_ble_eq_true rfl)
  rw [lg_entry_eq]
  generalize (lg_sl ([.ref hT, .int x0, .int x1]) ++ List.replicate (4 - (lg_sl ([.ref hT, .int x0, .int x1])).length) Slot.unset).toArray = ls at hl ⊢
  have hl : lv_has ls 4 [(0, .ref hT), (1, .int x0), (2, .int x1)] := hl
  unfold f_X12_judged at hF
  refine lv_aload_n hx hb dX12_judged_0 rfl (lv_at hl 0 rfl) ?_
  refine lv_iconst (v := (0 : Int32)) hx hb dX12_judged_1 (by decide) ?_
  refine va_put (D := D.1) (ci := 12) (v := .int (0 : Int32)) (ty := .int) (C := RX12) (T := TX12) (N := 114) hx hb hts wi_X12 tyX12 tyX12_ok nmX12 hown X.1 X.2.1 X.2.2.1 X.2.2.2.1 0 rfl rfl 58 (by decide) (hts _ q7_12) (fun _ h9 => h9) rfl (by decide +kernel) rfl rfl (by rw [List.length_map, List.length_range]; decide) dX12_judged_2 (fun H locs hP hD hS => ?_)
  have X : Hx D (tX12 yT) A s H locs (wX12 hT aT yT (sI gT 58 (0 : Int32))) := Hx_set X (wG_sI (k := 58) rfl) hP hD hS
  refine lv_iload_n hx hb dX12_judged_5 rfl (lv_at hl 1 rfl) ?_
  refine lv_istore_n (lv' := [(3, .int x0), (0, .ref hT), (1, .int x0), (2, .int x1)]) hx hb dX12_judged_6 rfl hl (by decide) rfl (fun ls hl => ?_)
  exact (kL_X12_judged l D hT aT yT n n) C X (lv_sub hl [1, 3, 0] rfl) hF

/-! ### X12_fits -/
theorem dX12_fits_0 : decode cX12_fits 0 = .ok (.aload_n 0, 1) := by decide +kernel
theorem dX12_fits_1 : decode cX12_fits 1 = .ok (.iload_n 1, 1) := by decide +kernel
theorem dX12_fits_2 : decode cX12_fits 2 = .ok (.iload_n 2, 1) := by decide +kernel
theorem dX12_fits_3 : decode cX12_fits 3 = .ok (.invokevirtual 633, 3) := by decide +kernel
theorem dX12_fits_6 : decode cX12_fits 6 = .ok (.istore 5, 2) := by decide +kernel
theorem dX12_fits_8 : decode cX12_fits 8 = .ok (.iload 5, 2) := by decide +kernel
theorem dX12_fits_10 : decode cX12_fits 10 = .ok (.ifCond .ge 5, 3) := by decide +kernel
theorem dX12_fits_13 : decode cX12_fits 13 = .ok (.iconst 0, 1) := by decide +kernel
theorem dX12_fits_14 : decode cX12_fits 14 = .ok (.ireturn, 1) := by decide +kernel
theorem dX12_fits_15 : decode cX12_fits 15 = .ok (.iload 5, 2) := by decide +kernel
theorem dX12_fits_17 : decode cX12_fits 17 = .ok (.iload_n 3, 1) := by decide +kernel
theorem dX12_fits_18 : decode cX12_fits 18 = .ok (.invokestatic 636, 3) := by decide +kernel
theorem dX12_fits_21 : decode cX12_fits 21 = .ok (.ifCond .ne 11, 3) := by decide +kernel
theorem dX12_fits_24 : decode cX12_fits 24 = .ok (.aload_n 0, 1) := by decide +kernel
theorem dX12_fits_25 : decode cX12_fits 25 = .ok (.iconst 4, 1) := by decide +kernel
theorem dX12_fits_26 : decode cX12_fits 26 = .ok (.iload 4, 2) := by decide +kernel
theorem dX12_fits_28 : decode cX12_fits 28 = .ok (.invokevirtual 537, 3) := by decide +kernel
theorem dX12_fits_31 : decode cX12_fits 31 = .ok (.ireturn, 1) := by decide +kernel
theorem dX12_fits_32 : decode cX12_fits 32 = .ok (.iconst 1, 1) := by decide +kernel
theorem dX12_fits_33 : decode cX12_fits 33 = .ok (.ireturn, 1) := by decide +kernel
abbrev R_X12_fits : Room := ({ frames := 3, cells := 0, slots := 0, locals := 72 } : Room)
def f_X12_fits (n : Nat) (gT : Gs) (x0 : Int32) (x1 : Int32) (x2 : Int32) (x3 : Int32) : Option (Int32 × Gs) :=
  bnd (f_X12_judged n gT x0 x1) (fun q_1 => if 0 ≤ q_1.1 then (bnd (f_X12_comes q_1.1 x2) (fun q_3 => if q_3 = 0 then (bnd (f_X12_fault q_1.2 (4 : Int32) x3) (fun q_5 => grd (zB q_5.1) (some (q_5.1, q_5.2)))) else (some ((1 : Int32), q_1.2)))) else (some ((0 : Int32), q_1.2)))
set_option maxHeartbeats 4000000 in
set_option maxRecDepth 100000 in
theorem c_X12_fits (l : Launch) (D : Dx) (hT : Nat) (aT : Nat → Nat) (yT : Nat → ClassId) (n : Nat) (gT : Gs) (x0 : Int32) (x1 : Int32) (x2 : Int32) (x3 : Int32) (q : Int32 × Gs) (hF : f_X12_fits n gT x0 x1 x2 x3 = some q) (sz : Nat) : Met l yX12_fits (ws_ yX12_fits cX12_fits 6 (some .boolean)) R_X12_fits (PC D (tX12 yT) [.ref hT, .int x0, .int x1, .int x2, .int x3] (wX12 hT aT yT gT) sz) (QI D (va_A (wX12 hT aT yT gT) sz) (wX12 hT aT yT q.2) q.1) 0 0 (va_A (wX12 hT aT yT gT) sz) := by
  refine Met.ofW (cc := cX12_fits) (maxL := 6) (ret := (some .boolean)) (by decide) rfl ?_
  intro p e s m args below meth c s₁ B hml hv
  obtain ⟨rfl, hsz, hP, hK, hD, hN⟩ := hv
  subst hsz
  have C : Cx p s m _ meth c cX12_fits (some .boolean) 6 RX12 lw_all := Cx_of B hml
  have X := Hx_start hP hK hD hN
  obtain ⟨hx, hb, hr, -, hown, hts, hlk⟩ := id C
  generalize va_A (wX12 hT aT yT gT) s.heap.size = A at X ⊢
  have hl := lv_entry ([.ref hT, .int x0, .int x1, .int x2, .int x3]) (n := 6) (Nat.le_of_ble_eq_true rfl)
  rw [lg_entry_eq]
  generalize (lg_sl ([.ref hT, .int x0, .int x1, .int x2, .int x3]) ++ List.replicate (6 - (lg_sl ([.ref hT, .int x0, .int x1, .int x2, .int x3])).length) Slot.unset).toArray = ls at hl ⊢
  have hl : lv_has ls 6 [(0, .ref hT), (1, .int x0), (2, .int x1), (3, .int x2), (4, .int x3)] := hl
  unfold f_X12_fits at hF
  refine lv_aload_n hx hb dX12_fits_0 rfl (lv_at hl 0 rfl) ?_
  refine lv_iload_n hx hb dX12_fits_1 rfl (lv_at hl 1 rfl) ?_
  refine lv_iload_n hx hb dX12_fits_2 rfl (lv_at hl 2 rfl) ?_
  obtain ⟨q_1, hc_2, hF⟩ := bnd_some hF
  refine cV_i (As := [.int x0, .int x1]) (rest := []) C X (c_X12_judged l D hT aT yT n gT x0 x1 q_1 hc_2 _) (cwV 2 hts (good_V q9_36 q9_38 q0_103 q1_9 q9_39) rfl rfl rfl (by decide +kernel) ⟨Nat.le_of_ble_eq_true rfl, Nat.le_of_ble_eq_true rfl⟩) (va_recv X.1 X.2.1 (ci := 12) (q0 := 0) rfl rfl) X.1 X.2.1 X.2.2.1 (free_all X) hl.1 rfl rfl (Nat.le_of_ble_eq_true rfl) dX12_fits_3 ⟨Nat.le_of_ble_eq_true rfl, Nat.le_of_ble_eq_true rfl⟩ (fun t H1 locs1 ht hB hk hS => ?_)
  have X : Hx D (tX12 yT) A s H1 locs1 (wX12 hT aT yT q_1.2) := Hx_after_all X ht hB hS
  clear hk hS ht hB
  generalize H1 = H at X ⊢
  generalize locs1 = locs at X ⊢
  refine lv_istore (lv' := [(5, .int q_1.1), (0, .ref hT), (1, .int x0), (2, .int x1), (3, .int x2), (4, .int x3)]) hx hb dX12_fits_6 hl (by decide) rfl (fun ls hl => ?_)
  refine lv_iload hx hb dX12_fits_8 (lv_at hl 0 rfl) ?_
  refine lv_if_ge (tgt := 15) hx hb dX12_fits_10 (by decide) (fun c => ?_) (fun c => ?_)
  · replace hF := iT c hF
    refine lv_iload hx hb dX12_fits_15 (lv_at hl 0 rfl) ?_
    refine lv_iload_n hx hb dX12_fits_17 rfl (lv_at hl 4 rfl) ?_
    obtain ⟨q_3, hc_4, hF⟩ := bnd_some hF
    refine cS_i (As := [.int q_1.1, .int x2]) (rest := []) C X (c_X12_comes l D  q_1.1 x2 q_3 hc_4 _) (va_cwS 2 hts (good_S q9_58 q9_59 q1_9 q9_60) rfl rfl rfl (by decide +kernel) ⟨Nat.le_of_ble_eq_true rfl, Nat.le_of_ble_eq_true rfl⟩) (eK X) eP (eD (A := A)) (eF X) hl.1 rfl rfl (Nat.le_of_ble_eq_true rfl) dX12_fits_18 ⟨Nat.le_of_ble_eq_true rfl, Nat.le_of_ble_eq_true rfl⟩ (fun t H1 locs1 ht hB hk hS => ?_)
    have X := Hx_after_none X hk hS
    clear hk hS ht hB
    generalize H1 = H at X ⊢
    generalize locs1 = locs at X ⊢
    refine lv_if_ne (tgt := 32) hx hb dX12_fits_21 (by decide) (fun c => ?_) (fun c => ?_)
    · replace hF := iF c hF
      refine lv_iconst (v := (1 : Int32)) hx hb dX12_fits_32 (by decide) ?_
      have hq := Option.some.inj hF
      subst hq
      exact rt_z (v := (1 : Int32)) C X (by decide) dX12_fits_33
    · replace hF := iT c hF
      refine lv_aload_n hx hb dX12_fits_24 rfl (lv_at hl 1 rfl) ?_
      refine lv_iconst (v := (4 : Int32)) hx hb dX12_fits_25 (by decide) ?_
      refine lv_iload hx hb dX12_fits_26 (lv_at hl 5 rfl) ?_
      obtain ⟨q_5, hc_6, hF⟩ := bnd_some hF
      refine cV_i (As := [.int (4 : Int32), .int x3]) (rest := []) C X (c_X12_fault l D hT aT yT q_1.2 (4 : Int32) x3 q_5 hc_6 _) (cwV 2 hts (good_V q8_177 q8_179 q0_79 q1_9 q8_180) rfl rfl rfl (by decide +kernel) ⟨Nat.le_of_ble_eq_true rfl, Nat.le_of_ble_eq_true rfl⟩) (va_recv X.1 X.2.1 (ci := 12) (q0 := 0) rfl rfl) X.1 X.2.1 X.2.2.1 (free_all X) hl.1 rfl rfl (Nat.le_of_ble_eq_true rfl) dX12_fits_28 ⟨Nat.le_of_ble_eq_true rfl, Nat.le_of_ble_eq_true rfl⟩ (fun t H1 locs1 ht hB hk hS => ?_)
      have X : Hx D (tX12 yT) A s H1 locs1 (wX12 hT aT yT q_5.2) := Hx_after_all X ht hB hS
      clear hk hS ht hB
      generalize H1 = H at X ⊢
      generalize locs1 = locs at X ⊢
      obtain ⟨h_7, hF⟩ := grd_some hF
      have hq := Option.some.inj hF
      subst hq
      exact rt_z (v := q_5.1) C X (zB_n h_7) dX12_fits_31
  · replace hF := iF c hF
    refine lv_iconst (v := (0 : Int32)) hx hb dX12_fits_13 (by decide) ?_
    have hq := Option.some.inj hF
    subst hq
    exact rt_z (v := (0 : Int32)) C X (by decide) dX12_fits_14

/-! ### X12_judges -/
theorem dX12_judges_0 : decode cX12_judges 0 = .ok (.aload_n 0, 1) := by decide +kernel
theorem dX12_judges_1 : decode cX12_judges 1 = .ok (.iconst 1, 1) := by decide +kernel
theorem dX12_judges_2 : decode cX12_judges 2 = .ok (.putfield 235, 3) := by decide +kernel
theorem dX12_judges_5 : decode cX12_judges 5 = .ok (.iconst 1, 1) := by decide +kernel
theorem dX12_judges_6 : decode cX12_judges 6 = .ok (.istore_n 1, 1) := by decide +kernel
theorem dX12_judges_7 : decode cX12_judges 7 = .ok (.iconst 0, 1) := by decide +kernel
theorem dX12_judges_8 : decode cX12_judges 8 = .ok (.istore_n 2, 1) := by decide +kernel
theorem dX12_judges_9 : decode cX12_judges 9 = .ok (.iconst 0, 1) := by decide +kernel
theorem dX12_judges_10 : decode cX12_judges 10 = .ok (.istore_n 3, 1) := by decide +kernel
theorem dX12_judges_11 : decode cX12_judges 11 = .ok (.iload_n 1, 1) := by decide +kernel
theorem dX12_judges_12 : decode cX12_judges 12 = .ok (.ifCond .eq 185, 3) := by decide +kernel
theorem dX12_judges_15 : decode cX12_judges 15 = .ok (.iload_n 2, 1) := by decide +kernel
theorem dX12_judges_16 : decode cX12_judges 16 = .ok (.aload_n 0, 1) := by decide +kernel
theorem dX12_judges_17 : decode cX12_judges 17 = .ok (.getfield 156, 3) := by decide +kernel
theorem dX12_judges_20 : decode cX12_judges 20 = .ok (.if_icmp .lt 11, 3) := by decide +kernel
theorem dX12_judges_23 : decode cX12_judges 23 = .ok (.iload_n 3, 1) := by decide +kernel
theorem dX12_judges_24 : decode cX12_judges 24 = .ok (.aload_n 0, 1) := by decide +kernel
theorem dX12_judges_25 : decode cX12_judges 25 = .ok (.getfield 159, 3) := by decide +kernel
theorem dX12_judges_28 : decode cX12_judges 28 = .ok (.if_icmp .ge 169, 3) := by decide +kernel
theorem dX12_judges_31 : decode cX12_judges 31 = .ok (.iload_n 3, 1) := by decide +kernel
theorem dX12_judges_32 : decode cX12_judges 32 = .ok (.aload_n 0, 1) := by decide +kernel
theorem dX12_judges_33 : decode cX12_judges 33 = .ok (.getfield 159, 3) := by decide +kernel
theorem dX12_judges_36 : decode cX12_judges 36 = .ok (.if_icmp .eq 26, 3) := by decide +kernel
theorem dX12_judges_39 : decode cX12_judges 39 = .ok (.iload_n 2, 1) := by decide +kernel
theorem dX12_judges_40 : decode cX12_judges 40 = .ok (.aload_n 0, 1) := by decide +kernel
theorem dX12_judges_41 : decode cX12_judges 41 = .ok (.getfield 156, 3) := by decide +kernel
theorem dX12_judges_44 : decode cX12_judges 44 = .ok (.if_icmp .ge 123, 3) := by decide +kernel
theorem dX12_judges_47 : decode cX12_judges 47 = .ok (.aload_n 0, 1) := by decide +kernel
theorem dX12_judges_48 : decode cX12_judges 48 = .ok (.getfield 193, 3) := by decide +kernel
theorem dX12_judges_51 : decode cX12_judges 51 = .ok (.iload_n 2, 1) := by decide +kernel
theorem dX12_judges_52 : decode cX12_judges 52 = .ok (.iaload, 1) := by decide +kernel
theorem dX12_judges_53 : decode cX12_judges 53 = .ok (.aload_n 0, 1) := by decide +kernel
theorem dX12_judges_54 : decode cX12_judges 54 = .ok (.getfield 214, 3) := by decide +kernel
theorem dX12_judges_57 : decode cX12_judges 57 = .ok (.iload_n 3, 1) := by decide +kernel
theorem dX12_judges_58 : decode cX12_judges 58 = .ok (.iaload, 1) := by decide +kernel
theorem dX12_judges_59 : decode cX12_judges 59 = .ok (.if_icmp .ge 108, 3) := by decide +kernel
theorem dX12_judges_62 : decode cX12_judges 62 = .ok (.aload_n 0, 1) := by decide +kernel
theorem dX12_judges_63 : decode cX12_judges 63 = .ok (.aload_n 0, 1) := by decide +kernel
theorem dX12_judges_64 : decode cX12_judges 64 = .ok (.getfield 178, 3) := by decide +kernel
theorem dX12_judges_67 : decode cX12_judges 67 = .ok (.iload_n 2, 1) := by decide +kernel
theorem dX12_judges_68 : decode cX12_judges 68 = .ok (.iaload, 1) := by decide +kernel
theorem dX12_judges_69 : decode cX12_judges 69 = .ok (.aload_n 0, 1) := by decide +kernel
theorem dX12_judges_70 : decode cX12_judges 70 = .ok (.getfield 181, 3) := by decide +kernel
theorem dX12_judges_73 : decode cX12_judges 73 = .ok (.iload_n 2, 1) := by decide +kernel
theorem dX12_judges_74 : decode cX12_judges 74 = .ok (.iaload, 1) := by decide +kernel
theorem dX12_judges_75 : decode cX12_judges 75 = .ok (.aload_n 0, 1) := by decide +kernel
theorem dX12_judges_76 : decode cX12_judges 76 = .ok (.getfield 171, 3) := by decide +kernel
theorem dX12_judges_79 : decode cX12_judges 79 = .ok (.iload_n 2, 1) := by decide +kernel
theorem dX12_judges_80 : decode cX12_judges 80 = .ok (.iaload, 1) := by decide +kernel
theorem dX12_judges_81 : decode cX12_judges 81 = .ok (.aload_n 0, 1) := by decide +kernel
theorem dX12_judges_82 : decode cX12_judges 82 = .ok (.getfield 187, 3) := by decide +kernel
theorem dX12_judges_85 : decode cX12_judges 85 = .ok (.iload_n 2, 1) := by decide +kernel
theorem dX12_judges_86 : decode cX12_judges 86 = .ok (.iaload, 1) := by decide +kernel
theorem dX12_judges_87 : decode cX12_judges 87 = .ok (.invokevirtual 639, 3) := by decide +kernel
theorem dX12_judges_90 : decode cX12_judges 90 = .ok (.istore_n 1, 1) := by decide +kernel
theorem dX12_judges_91 : decode cX12_judges 91 = .ok (.iload_n 1, 1) := by decide +kernel
theorem dX12_judges_92 : decode cX12_judges 92 = .ok (.ifCond .eq 15, 3) := by decide +kernel
theorem dX12_judges_95 : decode cX12_judges 95 = .ok (.aload_n 0, 1) := by decide +kernel
theorem dX12_judges_96 : decode cX12_judges 96 = .ok (.getfield 196, 3) := by decide +kernel
theorem dX12_judges_99 : decode cX12_judges 99 = .ok (.iload_n 2, 1) := by decide +kernel
theorem dX12_judges_100 : decode cX12_judges 100 = .ok (.aload_n 0, 1) := by decide +kernel
theorem dX12_judges_101 : decode cX12_judges 101 = .ok (.getfield 229, 3) := by decide +kernel
theorem dX12_judges_104 : decode cX12_judges 104 = .ok (.iconst 0, 1) := by decide +kernel
theorem dX12_judges_105 : decode cX12_judges 105 = .ok (.iaload, 1) := by decide +kernel
theorem dX12_judges_106 : decode cX12_judges 106 = .ok (.iastore, 1) := by decide +kernel
theorem dX12_judges_107 : decode cX12_judges 107 = .ok (.iload_n 1, 1) := by decide +kernel
theorem dX12_judges_108 : decode cX12_judges 108 = .ok (.ifCond .eq 53, 3) := by decide +kernel
theorem dX12_judges_111 : decode cX12_judges 111 = .ok (.aload_n 0, 1) := by decide +kernel
theorem dX12_judges_112 : decode cX12_judges 112 = .ok (.getfield 174, 3) := by decide +kernel
theorem dX12_judges_115 : decode cX12_judges 115 = .ok (.iload_n 2, 1) := by decide +kernel
theorem dX12_judges_116 : decode cX12_judges 116 = .ok (.baload, 1) := by decide +kernel
theorem dX12_judges_117 : decode cX12_judges 117 = .ok (.ifCond .eq 44, 3) := by decide +kernel
theorem dX12_judges_120 : decode cX12_judges 120 = .ok (.aload_n 0, 1) := by decide +kernel
theorem dX12_judges_121 : decode cX12_judges 121 = .ok (.aload_n 0, 1) := by decide +kernel
theorem dX12_judges_122 : decode cX12_judges 122 = .ok (.getfield 181, 3) := by decide +kernel
theorem dX12_judges_125 : decode cX12_judges 125 = .ok (.iload_n 2, 1) := by decide +kernel
theorem dX12_judges_126 : decode cX12_judges 126 = .ok (.iaload, 1) := by decide +kernel
theorem dX12_judges_127 : decode cX12_judges 127 = .ok (.aload_n 0, 1) := by decide +kernel
theorem dX12_judges_128 : decode cX12_judges 128 = .ok (.getfield 184, 3) := by decide +kernel
theorem dX12_judges_131 : decode cX12_judges 131 = .ok (.iload_n 2, 1) := by decide +kernel
theorem dX12_judges_132 : decode cX12_judges 132 = .ok (.iaload, 1) := by decide +kernel
theorem dX12_judges_133 : decode cX12_judges 133 = .ok (.aload_n 0, 1) := by decide +kernel
theorem dX12_judges_134 : decode cX12_judges 134 = .ok (.getfield 171, 3) := by decide +kernel
theorem dX12_judges_137 : decode cX12_judges 137 = .ok (.iload_n 2, 1) := by decide +kernel
theorem dX12_judges_138 : decode cX12_judges 138 = .ok (.iaload, 1) := by decide +kernel
theorem dX12_judges_139 : decode cX12_judges 139 = .ok (.aload_n 0, 1) := by decide +kernel
theorem dX12_judges_140 : decode cX12_judges 140 = .ok (.getfield 190, 3) := by decide +kernel
theorem dX12_judges_143 : decode cX12_judges 143 = .ok (.iload_n 2, 1) := by decide +kernel
theorem dX12_judges_144 : decode cX12_judges 144 = .ok (.iaload, 1) := by decide +kernel
theorem dX12_judges_145 : decode cX12_judges 145 = .ok (.invokevirtual 639, 3) := by decide +kernel
theorem dX12_judges_148 : decode cX12_judges 148 = .ok (.istore_n 1, 1) := by decide +kernel
theorem dX12_judges_149 : decode cX12_judges 149 = .ok (.aload_n 0, 1) := by decide +kernel
theorem dX12_judges_150 : decode cX12_judges 150 = .ok (.getfield 199, 3) := by decide +kernel
theorem dX12_judges_153 : decode cX12_judges 153 = .ok (.iload_n 2, 1) := by decide +kernel
theorem dX12_judges_154 : decode cX12_judges 154 = .ok (.aload_n 0, 1) := by decide +kernel
theorem dX12_judges_155 : decode cX12_judges 155 = .ok (.getfield 229, 3) := by decide +kernel
theorem dX12_judges_158 : decode cX12_judges 158 = .ok (.iconst 0, 1) := by decide +kernel
theorem dX12_judges_159 : decode cX12_judges 159 = .ok (.iaload, 1) := by decide +kernel
theorem dX12_judges_160 : decode cX12_judges 160 = .ok (.iastore, 1) := by decide +kernel
theorem dX12_judges_161 : decode cX12_judges 161 = .ok (.iinc 2 1, 3) := by decide +kernel
theorem dX12_judges_164 : decode cX12_judges 164 = .ok (.goto (-153), 3) := by decide +kernel
theorem dX12_judges_167 : decode cX12_judges 167 = .ok (.aload_n 0, 1) := by decide +kernel
theorem dX12_judges_168 : decode cX12_judges 168 = .ok (.aload_n 0, 1) := by decide +kernel
theorem dX12_judges_169 : decode cX12_judges 169 = .ok (.getfield 205, 3) := by decide +kernel
theorem dX12_judges_172 : decode cX12_judges 172 = .ok (.iload_n 3, 1) := by decide +kernel
theorem dX12_judges_173 : decode cX12_judges 173 = .ok (.iaload, 1) := by decide +kernel
theorem dX12_judges_174 : decode cX12_judges 174 = .ok (.aload_n 0, 1) := by decide +kernel
theorem dX12_judges_175 : decode cX12_judges 175 = .ok (.getfield 208, 3) := by decide +kernel
theorem dX12_judges_178 : decode cX12_judges 178 = .ok (.iload_n 3, 1) := by decide +kernel
theorem dX12_judges_179 : decode cX12_judges 179 = .ok (.iaload, 1) := by decide +kernel
theorem dX12_judges_180 : decode cX12_judges 180 = .ok (.iconst 0, 1) := by decide +kernel
theorem dX12_judges_181 : decode cX12_judges 181 = .ok (.aload_n 0, 1) := by decide +kernel
theorem dX12_judges_182 : decode cX12_judges 182 = .ok (.getfield 211, 3) := by decide +kernel
theorem dX12_judges_185 : decode cX12_judges 185 = .ok (.iload_n 3, 1) := by decide +kernel
theorem dX12_judges_186 : decode cX12_judges 186 = .ok (.iaload, 1) := by decide +kernel
theorem dX12_judges_187 : decode cX12_judges 187 = .ok (.invokevirtual 639, 3) := by decide +kernel
theorem dX12_judges_190 : decode cX12_judges 190 = .ok (.istore_n 1, 1) := by decide +kernel
theorem dX12_judges_191 : decode cX12_judges 191 = .ok (.iinc 3 1, 3) := by decide +kernel
theorem dX12_judges_194 : decode cX12_judges 194 = .ok (.goto (-183), 3) := by decide +kernel
theorem dX12_judges_197 : decode cX12_judges 197 = .ok (.aload_n 0, 1) := by decide +kernel
theorem dX12_judges_198 : decode cX12_judges 198 = .ok (.iconst 0, 1) := by decide +kernel
theorem dX12_judges_199 : decode cX12_judges 199 = .ok (.putfield 235, 3) := by decide +kernel
theorem dX12_judges_202 : decode cX12_judges 202 = .ok (.iload_n 1, 1) := by decide +kernel
theorem dX12_judges_203 : decode cX12_judges 203 = .ok (.ireturn, 1) := by decide +kernel
abbrev R_X12_judges : Room := ({ frames := 4, cells := 0, slots := 0, locals := 97 } : Room)
def b_X12_judges_197 (n : Nat) (rec : (Gs → Int32 → Int32 → Int32 → Option (Int32 × Gs))) (gT : Gs) (v1 : Int32) : Option (Int32 × Gs) :=
  grd (zB v1) (some (v1, (sI gT 59 (0 : Int32))))
def b_X12_judges_161 (n : Nat) (rec : (Gs → Int32 → Int32 → Int32 → Option (Int32 × Gs))) (gT : Gs) (v1 : Int32) (v2 : Int32) (v3 : Int32) : Option (Int32 × Gs) :=
  rec gT v1 (v2 + (1 : Int32)) v3
def b_X12_judges_107 (n : Nat) (rec : (Gs → Int32 → Int32 → Int32 → Option (Int32 × Gs))) (gT : Gs) (v1 : Int32) (v2 : Int32) (v3 : Int32) : Option (Int32 × Gs) :=
  if v1 = 0 then (b_X12_judges_161 n rec gT v1 v2 v3) else (grd (inB v2 400) (if (gIA gT 39 v2.toNatClampNeg) = 0 then (b_X12_judges_161 n rec gT v1 v2 v3) else (grd (inB v2 400) (grd (inB v2 400) (grd (inB v2 400) (grd (inB v2 400) (bnd (f_X12_fits n gT (gIA gT 41 v2.toNatClampNeg) (gIA gT 42 v2.toNatClampNeg) (gIA gT 38 v2.toNatClampNeg) (gIA gT 44 v2.toNatClampNeg)) (fun q_13 => grd (inB (0 : Int32) 400) (grd (inB v2 400) (b_X12_judges_161 n rec (sIA q_13.2 47 (upd (gIA q_13.2 47) v2.toNatClampNeg (gIA q_13.2 57 (0 : Int32).toNatClampNeg))) q_13.1 v2 v3))))))))))
def b_X12_judges_62 (n : Nat) (rec : (Gs → Int32 → Int32 → Int32 → Option (Int32 × Gs))) (gT : Gs) (v2 : Int32) (v3 : Int32) : Option (Int32 × Gs) :=
  grd (inB v2 400) (grd (inB v2 400) (grd (inB v2 400) (grd (inB v2 400) (bnd (f_X12_fits n gT (gIA gT 40 v2.toNatClampNeg) (gIA gT 41 v2.toNatClampNeg) (gIA gT 38 v2.toNatClampNeg) (gIA gT 43 v2.toNatClampNeg)) (fun q_6 => if q_6.1 = 0 then (b_X12_judges_107 n rec q_6.2 q_6.1 v2 v3) else (grd (inB (0 : Int32) 400) (grd (inB v2 400) (b_X12_judges_107 n rec (sIA q_6.2 46 (upd (gIA q_6.2 46) v2.toNatClampNeg (gIA q_6.2 57 (0 : Int32).toNatClampNeg))) q_6.1 v2 v3))))))))
def b_X12_judges_167 (n : Nat) (rec : (Gs → Int32 → Int32 → Int32 → Option (Int32 × Gs))) (gT : Gs) (v2 : Int32) (v3 : Int32) : Option (Int32 × Gs) :=
  grd (inB v3 400) (grd (inB v3 400) (grd (inB v3 400) (bnd (f_X12_fits n gT (gIA gT 49 v3.toNatClampNeg) (gIA gT 50 v3.toNatClampNeg) (0 : Int32) (gIA gT 51 v3.toNatClampNeg)) (fun q_22 => rec q_22.2 q_22.1 v2 (v3 + (1 : Int32))))))
def b_X12_judges_31 (n : Nat) (rec : (Gs → Int32 → Int32 → Int32 → Option (Int32 × Gs))) (gT : Gs) (v2 : Int32) (v3 : Int32) : Option (Int32 × Gs) :=
  if v3 = (gI gT 34) then (b_X12_judges_62 n rec gT v2 v3) else (if (gI gT 33) ≤ v2 then (b_X12_judges_167 n rec gT v2 v3) else (grd (inB v2 400) (grd (inB v3 400) (if (gIA gT 52 v3.toNatClampNeg) ≤ (gIA gT 45 v2.toNatClampNeg) then (b_X12_judges_167 n rec gT v2 v3) else (b_X12_judges_62 n rec gT v2 v3)))))
def h_X12_judges_11 (n : Nat) (rec : (Gs → Int32 → Int32 → Int32 → Option (Int32 × Gs))) (gT : Gs) (v1 : Int32) (v2 : Int32) (v3 : Int32) : Option (Int32 × Gs) :=
  if v1 = 0 then (b_X12_judges_197 n rec gT v1) else (if v2 < (gI gT 33) then (b_X12_judges_31 n rec gT v2 v3) else (if (gI gT 34) ≤ v3 then (b_X12_judges_197 n rec gT v1) else (b_X12_judges_31 n rec gT v2 v3)))
def L_X12_judges (n : Nat) : Nat → (Gs → Int32 → Int32 → Int32 → Option (Int32 × Gs))
  | 0 => ((fun _ _ _ _ => none))
  | k + 1 => (h_X12_judges_11 n (L_X12_judges n k))
def f_X12_judges (n : Nat) (gT : Gs) : Option (Int32 × Gs) :=
  (L_X12_judges n n) (sI gT 59 (1 : Int32)) (1 : Int32) (0 : Int32) (0 : Int32)
def S_X12_judges_197 (l : Launch) (D : Dx) (hT : Nat) (aT : Nat → Nat) (yT : Nat → ClassId) (fn : Gs → Int32 → Option (Int32 × Gs)) : Prop :=
  ∀ {p : Program} {e : Env} {s : State} {m : MethodId} {args : Array Value} {below : List Frame} {meth : Method} {c : Code} {H : Heap} {locs : List Loc} {A : Nat → Prop} {ls : Array Slot} {gT : Gs} {v1 : Int32} {q : Int32 × Gs}, Cx p s m args meth c cX12_judges (some .boolean) 4 RX12 lw_all → Hx D (tX12 yT) A s H locs (wX12 hT aT yT gT) → lv_has ls 4 [(0, .ref hT), (1, .int v1)] → fn gT v1 = some q → W p l e R_X12_judges s m args below meth c H locs 0 0 (MQ below (QI D A (wX12 hT aT yT q.2) q.1) args s 0 0 A) (F0 m 197 ls [])
def S_X12_judges_161 (l : Launch) (D : Dx) (hT : Nat) (aT : Nat → Nat) (yT : Nat → ClassId) (fn : Gs → Int32 → Int32 → Int32 → Option (Int32 × Gs)) : Prop :=
  ∀ {p : Program} {e : Env} {s : State} {m : MethodId} {args : Array Value} {below : List Frame} {meth : Method} {c : Code} {H : Heap} {locs : List Loc} {A : Nat → Prop} {ls : Array Slot} {gT : Gs} {v1 : Int32} {v2 : Int32} {v3 : Int32} {q : Int32 × Gs}, Cx p s m args meth c cX12_judges (some .boolean) 4 RX12 lw_all → Hx D (tX12 yT) A s H locs (wX12 hT aT yT gT) → lv_has ls 4 [(0, .ref hT), (1, .int v1), (2, .int v2), (3, .int v3)] → fn gT v1 v2 v3 = some q → W p l e R_X12_judges s m args below meth c H locs 0 0 (MQ below (QI D A (wX12 hT aT yT q.2) q.1) args s 0 0 A) (F0 m 161 ls [])
def S_X12_judges_107 (l : Launch) (D : Dx) (hT : Nat) (aT : Nat → Nat) (yT : Nat → ClassId) (fn : Gs → Int32 → Int32 → Int32 → Option (Int32 × Gs)) : Prop :=
  ∀ {p : Program} {e : Env} {s : State} {m : MethodId} {args : Array Value} {below : List Frame} {meth : Method} {c : Code} {H : Heap} {locs : List Loc} {A : Nat → Prop} {ls : Array Slot} {gT : Gs} {v1 : Int32} {v2 : Int32} {v3 : Int32} {q : Int32 × Gs}, Cx p s m args meth c cX12_judges (some .boolean) 4 RX12 lw_all → Hx D (tX12 yT) A s H locs (wX12 hT aT yT gT) → lv_has ls 4 [(0, .ref hT), (1, .int v1), (2, .int v2), (3, .int v3)] → fn gT v1 v2 v3 = some q → W p l e R_X12_judges s m args below meth c H locs 0 0 (MQ below (QI D A (wX12 hT aT yT q.2) q.1) args s 0 0 A) (F0 m 107 ls [])
def S_X12_judges_62 (l : Launch) (D : Dx) (hT : Nat) (aT : Nat → Nat) (yT : Nat → ClassId) (fn : Gs → Int32 → Int32 → Option (Int32 × Gs)) : Prop :=
  ∀ {p : Program} {e : Env} {s : State} {m : MethodId} {args : Array Value} {below : List Frame} {meth : Method} {c : Code} {H : Heap} {locs : List Loc} {A : Nat → Prop} {ls : Array Slot} {gT : Gs} {v2 : Int32} {v3 : Int32} {q : Int32 × Gs}, Cx p s m args meth c cX12_judges (some .boolean) 4 RX12 lw_all → Hx D (tX12 yT) A s H locs (wX12 hT aT yT gT) → lv_has ls 4 [(0, .ref hT), (2, .int v2), (3, .int v3)] → fn gT v2 v3 = some q → W p l e R_X12_judges s m args below meth c H locs 0 0 (MQ below (QI D A (wX12 hT aT yT q.2) q.1) args s 0 0 A) (F0 m 62 ls [])
def S_X12_judges_167 (l : Launch) (D : Dx) (hT : Nat) (aT : Nat → Nat) (yT : Nat → ClassId) (fn : Gs → Int32 → Int32 → Option (Int32 × Gs)) : Prop :=
  ∀ {p : Program} {e : Env} {s : State} {m : MethodId} {args : Array Value} {below : List Frame} {meth : Method} {c : Code} {H : Heap} {locs : List Loc} {A : Nat → Prop} {ls : Array Slot} {gT : Gs} {v2 : Int32} {v3 : Int32} {q : Int32 × Gs}, Cx p s m args meth c cX12_judges (some .boolean) 4 RX12 lw_all → Hx D (tX12 yT) A s H locs (wX12 hT aT yT gT) → lv_has ls 4 [(0, .ref hT), (2, .int v2), (3, .int v3)] → fn gT v2 v3 = some q → W p l e R_X12_judges s m args below meth c H locs 0 0 (MQ below (QI D A (wX12 hT aT yT q.2) q.1) args s 0 0 A) (F0 m 167 ls [])
def S_X12_judges_31 (l : Launch) (D : Dx) (hT : Nat) (aT : Nat → Nat) (yT : Nat → ClassId) (fn : Gs → Int32 → Int32 → Option (Int32 × Gs)) : Prop :=
  ∀ {p : Program} {e : Env} {s : State} {m : MethodId} {args : Array Value} {below : List Frame} {meth : Method} {c : Code} {H : Heap} {locs : List Loc} {A : Nat → Prop} {ls : Array Slot} {gT : Gs} {v2 : Int32} {v3 : Int32} {q : Int32 × Gs}, Cx p s m args meth c cX12_judges (some .boolean) 4 RX12 lw_all → Hx D (tX12 yT) A s H locs (wX12 hT aT yT gT) → lv_has ls 4 [(0, .ref hT), (2, .int v2), (3, .int v3)] → fn gT v2 v3 = some q → W p l e R_X12_judges s m args below meth c H locs 0 0 (MQ below (QI D A (wX12 hT aT yT q.2) q.1) args s 0 0 A) (F0 m 31 ls [])
def S_X12_judges_11 (l : Launch) (D : Dx) (hT : Nat) (aT : Nat → Nat) (yT : Nat → ClassId) (fn : Gs → Int32 → Int32 → Int32 → Option (Int32 × Gs)) : Prop :=
  ∀ {p : Program} {e : Env} {s : State} {m : MethodId} {args : Array Value} {below : List Frame} {meth : Method} {c : Code} {H : Heap} {locs : List Loc} {A : Nat → Prop} {ls : Array Slot} {gT : Gs} {v1 : Int32} {v2 : Int32} {v3 : Int32} {q : Int32 × Gs}, Cx p s m args meth c cX12_judges (some .boolean) 4 RX12 lw_all → Hx D (tX12 yT) A s H locs (wX12 hT aT yT gT) → lv_has ls 4 [(0, .ref hT), (1, .int v1), (2, .int v2), (3, .int v3)] → fn gT v1 v2 v3 = some q → W p l e R_X12_judges s m args below meth c H locs 0 0 (MQ below (QI D A (wX12 hT aT yT q.2) q.1) args s 0 0 A) (F0 m 11 ls [])
def SH_X12_judges (l : Launch) (D : Dx) (hT : Nat) (aT : Nat → Nat) (yT : Nat → ClassId) (rec : (Gs → Int32 → Int32 → Int32 → Option (Int32 × Gs))) : Prop := S_X12_judges_11 l D hT aT yT rec
set_option maxHeartbeats 4000000 in
set_option maxRecDepth 100000 in
theorem k_X12_judges_197 (l : Launch) (D : Dx) (hT : Nat) (aT : Nat → Nat) (yT : Nat → ClassId) (n : Nat) (rec : (Gs → Int32 → Int32 → Int32 → Option (Int32 × Gs))) (IH : SH_X12_judges l D hT aT yT rec) : S_X12_judges_197 l D hT aT yT (b_X12_judges_197 n rec) := by
  intro p e s m args below meth c H locs A ls gT v1 q C X hl hF
  obtain ⟨hx, hb, hr, hml, hown, hts, hlk⟩ := id C
  unfold b_X12_judges_197 at hF
  refine lv_aload_n hx hb dX12_judges_197 rfl (lv_at hl 0 rfl) ?_
  refine lv_iconst (v := (0 : Int32)) hx hb dX12_judges_198 (by decide) ?_
  refine va_put (D := D.1) (ci := 12) (v := .int (0 : Int32)) (ty := .boolean) (C := RX12) (T := TX12) (N := 114) hx hb hts wi_X12 tyX12 tyX12_ok nmX12 hown X.1 X.2.1 X.2.2.1 X.2.2.2.1 0 rfl rfl 59 (by decide) (hts _ q7_13) (fun _ h9 => h9) rfl (by decide +kernel) rfl rfl (by rw [List.length_map, List.length_range]; decide) dX12_judges_199 (fun H locs hP hD hS => ?_)
  have X : Hx D (tX12 yT) A s H locs (wX12 hT aT yT (sI gT 59 (0 : Int32))) := Hx_set X (wG_sI (k := 59) rfl) hP hD hS
  refine lv_iload_n hx hb dX12_judges_202 rfl (lv_at hl 1 rfl) ?_
  obtain ⟨h_1, hF⟩ := grd_some hF
  have hq := Option.some.inj hF
  subst hq
  exact rt_z (v := v1) C X (zB_n h_1) dX12_judges_203
set_option maxHeartbeats 4000000 in
set_option maxRecDepth 100000 in
theorem k_X12_judges_161 (l : Launch) (D : Dx) (hT : Nat) (aT : Nat → Nat) (yT : Nat → ClassId) (n : Nat) (rec : (Gs → Int32 → Int32 → Int32 → Option (Int32 × Gs))) (IH : SH_X12_judges l D hT aT yT rec) : S_X12_judges_161 l D hT aT yT (b_X12_judges_161 n rec) := by
  intro p e s m args below meth c H locs A ls gT v1 v2 v3 q C X hl hF
  obtain ⟨hx, hb, hr, hml, hown, hts, hlk⟩ := id C
  unfold b_X12_judges_161 at hF
  refine lv_iinc (v := v2 + (1 : Int32)) (lv' := [(2, .int (v2 + (1 : Int32))), (0, .ref hT), (1, .int v1), (3, .int v3)]) hx hb dX12_judges_161 hl (k := 2) rfl rfl (by decide) rfl (fun ls hl => ?_)
  refine lv_goto (tgt := 11) hx hb dX12_judges_164 (by decide) ?_
  exact IH C X (lv_sub hl [1, 2, 0, 3] rfl) hF
set_option maxHeartbeats 4000000 in
set_option maxRecDepth 100000 in
theorem k_X12_judges_107 (l : Launch) (D : Dx) (hT : Nat) (aT : Nat → Nat) (yT : Nat → ClassId) (n : Nat) (rec : (Gs → Int32 → Int32 → Int32 → Option (Int32 × Gs))) (IH : SH_X12_judges l D hT aT yT rec) : S_X12_judges_107 l D hT aT yT (b_X12_judges_107 n rec) := by
  intro p e s m args below meth c H locs A ls gT v1 v2 v3 q C X hl hF
  obtain ⟨hx, hb, hr, hml, hown, hts, hlk⟩ := id C
  unfold b_X12_judges_107 at hF
  refine lv_iload_n hx hb dX12_judges_107 rfl (lv_at hl 1 rfl) ?_
  refine lv_if_eq (tgt := 161) hx hb dX12_judges_108 (by decide) (fun c => ?_) (fun c => ?_)
  · replace hF := iT c hF
    exact (k_X12_judges_161 l D hT aT yT n rec IH) C X (lv_sub hl [0, 1, 2, 3] rfl) hF
  · replace hF := iF c hF
    refine lv_aload_n hx hb dX12_judges_111 rfl (lv_at hl 0 rfl) ?_
    refine va_get (D := D.1) (ci := 12) (v := .ref (aT 39)) (C := RX12) (T := TX12) (N := 114) hx hb hts wi_X12 hown X.1 X.2.1 0 rfl rfl 39 (by decide) (hts _ q6_233) (fun _ h9 => h9) (fl_get (by decide)) dX12_judges_112 ?_
    refine lv_iload_n hx hb dX12_judges_115 rfl (lv_at hl 2 rfl) ?_
    obtain ⟨h_8, hF⟩ := grd_some hF
    refine va_zald (D := D.1) (f := gIA gT 39) hx hb X.1 X.2.1 21 20 rfl rfl (inB_ok h_8) dX12_judges_116 ?_
    refine lv_if_eq (tgt := 161) hx hb dX12_judges_117 (by decide) (fun c => ?_) (fun c => ?_)
    · replace hF := iT c hF
      exact (k_X12_judges_161 l D hT aT yT n rec IH) C X (lv_sub hl [0, 1, 2, 3] rfl) hF
    · replace hF := iF c hF
      refine lv_aload_n hx hb dX12_judges_120 rfl (lv_at hl 0 rfl) ?_
      refine lv_aload_n hx hb dX12_judges_121 rfl (lv_at hl 0 rfl) ?_
      refine va_get (D := D.1) (ci := 12) (v := .ref (aT 41)) (C := RX12) (T := TX12) (N := 114) hx hb hts wi_X12 hown X.1 X.2.1 0 rfl rfl 41 (by decide) (hts _ q6_235) (fun _ h9 => h9) (fl_get (by decide)) dX12_judges_122 ?_
      refine lv_iload_n hx hb dX12_judges_125 rfl (lv_at hl 2 rfl) ?_
      obtain ⟨h_9, hF⟩ := grd_some hF
      refine va_iald (D := D.1) (f := gIA gT 41) hx hb X.1 X.2.1 23 22 rfl rfl (inB_ok h_9) dX12_judges_126 ?_
      refine lv_aload_n hx hb dX12_judges_127 rfl (lv_at hl 0 rfl) ?_
      refine va_get (D := D.1) (ci := 12) (v := .ref (aT 42)) (C := RX12) (T := TX12) (N := 114) hx hb hts wi_X12 hown X.1 X.2.1 0 rfl rfl 42 (by decide) (hts _ q6_236) (fun _ h9 => h9) (fl_get (by decide)) dX12_judges_128 ?_
      refine lv_iload_n hx hb dX12_judges_131 rfl (lv_at hl 2 rfl) ?_
      obtain ⟨h_10, hF⟩ := grd_some hF
      refine va_iald (D := D.1) (f := gIA gT 42) hx hb X.1 X.2.1 24 23 rfl rfl (inB_ok h_10) dX12_judges_132 ?_
      refine lv_aload_n hx hb dX12_judges_133 rfl (lv_at hl 0 rfl) ?_
      refine va_get (D := D.1) (ci := 12) (v := .ref (aT 38)) (C := RX12) (T := TX12) (N := 114) hx hb hts wi_X12 hown X.1 X.2.1 0 rfl rfl 38 (by decide) (hts _ q6_232) (fun _ h9 => h9) (fl_get (by decide)) dX12_judges_134 ?_
      refine lv_iload_n hx hb dX12_judges_137 rfl (lv_at hl 2 rfl) ?_
      obtain ⟨h_11, hF⟩ := grd_some hF
      refine va_iald (D := D.1) (f := gIA gT 38) hx hb X.1 X.2.1 20 19 rfl rfl (inB_ok h_11) dX12_judges_138 ?_
      refine lv_aload_n hx hb dX12_judges_139 rfl (lv_at hl 0 rfl) ?_
      refine va_get (D := D.1) (ci := 12) (v := .ref (aT 44)) (C := RX12) (T := TX12) (N := 114) hx hb hts wi_X12 hown X.1 X.2.1 0 rfl rfl 44 (by decide) (hts _ q6_238) (fun _ h9 => h9) (fl_get (by decide)) dX12_judges_140 ?_
      refine lv_iload_n hx hb dX12_judges_143 rfl (lv_at hl 2 rfl) ?_
      obtain ⟨h_12, hF⟩ := grd_some hF
      refine va_iald (D := D.1) (f := gIA gT 44) hx hb X.1 X.2.1 26 25 rfl rfl (inB_ok h_12) dX12_judges_144 ?_
      obtain ⟨q_13, hc_14, hF⟩ := bnd_some hF
      refine cV_i (As := [.int (gIA gT 41 v2.toNatClampNeg), .int (gIA gT 42 v2.toNatClampNeg), .int (gIA gT 38 v2.toNatClampNeg), .int (gIA gT 44 v2.toNatClampNeg)]) (rest := []) C X (c_X12_fits l D hT aT yT n gT (gIA gT 41 v2.toNatClampNeg) (gIA gT 42 v2.toNatClampNeg) (gIA gT 38 v2.toNatClampNeg) (gIA gT 44 v2.toNatClampNeg) q_13 hc_14 _) (cwV 4 hts (good_V q9_32 q9_34 q0_102 q1_9 q9_35) rfl rfl rfl (by decide +kernel) ⟨Nat.le_of_ble_eq_true rfl, Nat.le_of_ble_eq_true rfl⟩) (va_recv X.1 X.2.1 (ci := 12) (q0 := 0) rfl rfl) X.1 X.2.1 X.2.2.1 (free_all X) hl.1 rfl rfl (Nat.le_of_ble_eq_true rfl) dX12_judges_145 ⟨Nat.le_of_ble_eq_true rfl, Nat.le_of_ble_eq_true rfl⟩ (fun t H1 locs1 ht hB hk hS => ?_)
      have X : Hx D (tX12 yT) A s H1 locs1 (wX12 hT aT yT q_13.2) := Hx_after_all X ht hB hS
      clear hk hS ht hB
      generalize H1 = H at X ⊢
      generalize locs1 = locs at X ⊢
      refine lv_istore_n (lv' := [(1, .int q_13.1), (0, .ref hT), (2, .int v2), (3, .int v3)]) hx hb dX12_judges_148 rfl hl (by decide) rfl (fun ls hl => ?_)
      refine lv_aload_n hx hb dX12_judges_149 rfl (lv_at hl 1 rfl) ?_
      refine va_get (D := D.1) (ci := 12) (v := .ref (aT 47)) (C := RX12) (T := TX12) (N := 114) hx hb hts wi_X12 hown X.1 X.2.1 0 rfl rfl 47 (by decide) (hts _ q7_1) (fun _ h9 => h9) (fl_get (by decide)) dX12_judges_150 ?_
      refine lv_iload_n hx hb dX12_judges_153 rfl (lv_at hl 2 rfl) ?_
      refine lv_aload_n hx hb dX12_judges_154 rfl (lv_at hl 1 rfl) ?_
      refine va_get (D := D.1) (ci := 12) (v := .ref (aT 57)) (C := RX12) (T := TX12) (N := 114) hx hb hts wi_X12 hown X.1 X.2.1 0 rfl rfl 57 (by decide) (hts _ q7_11) (fun _ h9 => h9) (fl_get (by decide)) dX12_judges_155 ?_
      refine lv_iconst (v := (0 : Int32)) hx hb dX12_judges_158 (by decide) ?_
      obtain ⟨h_15, hF⟩ := grd_some hF
      refine va_iald (D := D.1) (f := gIA q_13.2 57) hx hb X.1 X.2.1 39 38 rfl rfl (inB_ok h_15) dX12_judges_159 ?_
      obtain ⟨h_16, hF⟩ := grd_some hF
      refine va_iast (D := D.1) (f := gIA q_13.2 47) hx hb X.1 X.2.1 X.2.2.1 X.2.2.2.1 29 28 rfl rfl (inB_ok h_16) dX12_judges_160 (fun H locs hP hD hS => ?_)
      have X : Hx D (tX12 yT) A s H locs (wX12 hT aT yT (sIA q_13.2 47 (upd (gIA q_13.2 47) v2.toNatClampNeg (gIA q_13.2 57 (0 : Int32).toNatClampNeg)))) := Hx_set X (wG_sIA (i := 28) (k := 47) ndX12 rfl rfl) hP hD hS
      exact (k_X12_judges_161 l D hT aT yT n rec IH) C X (lv_sub hl [1, 0, 2, 3] rfl) hF
set_option maxHeartbeats 4000000 in
set_option maxRecDepth 100000 in
theorem k_X12_judges_62 (l : Launch) (D : Dx) (hT : Nat) (aT : Nat → Nat) (yT : Nat → ClassId) (n : Nat) (rec : (Gs → Int32 → Int32 → Int32 → Option (Int32 × Gs))) (IH : SH_X12_judges l D hT aT yT rec) : S_X12_judges_62 l D hT aT yT (b_X12_judges_62 n rec) := by
  intro p e s m args below meth c H locs A ls gT v2 v3 q C X hl hF
  obtain ⟨hx, hb, hr, hml, hown, hts, hlk⟩ := id C
  unfold b_X12_judges_62 at hF
  refine lv_aload_n hx hb dX12_judges_62 rfl (lv_at hl 0 rfl) ?_
  refine lv_aload_n hx hb dX12_judges_63 rfl (lv_at hl 0 rfl) ?_
  refine va_get (D := D.1) (ci := 12) (v := .ref (aT 40)) (C := RX12) (T := TX12) (N := 114) hx hb hts wi_X12 hown X.1 X.2.1 0 rfl rfl 40 (by decide) (hts _ q6_234) (fun _ h9 => h9) (fl_get (by decide)) dX12_judges_64 ?_
  refine lv_iload_n hx hb dX12_judges_67 rfl (lv_at hl 1 rfl) ?_
  obtain ⟨h_2, hF⟩ := grd_some hF
  refine va_iald (D := D.1) (f := gIA gT 40) hx hb X.1 X.2.1 22 21 rfl rfl (inB_ok h_2) dX12_judges_68 ?_
  refine lv_aload_n hx hb dX12_judges_69 rfl (lv_at hl 0 rfl) ?_
  refine va_get (D := D.1) (ci := 12) (v := .ref (aT 41)) (C := RX12) (T := TX12) (N := 114) hx hb hts wi_X12 hown X.1 X.2.1 0 rfl rfl 41 (by decide) (hts _ q6_235) (fun _ h9 => h9) (fl_get (by decide)) dX12_judges_70 ?_
  refine lv_iload_n hx hb dX12_judges_73 rfl (lv_at hl 1 rfl) ?_
  obtain ⟨h_3, hF⟩ := grd_some hF
  refine va_iald (D := D.1) (f := gIA gT 41) hx hb X.1 X.2.1 23 22 rfl rfl (inB_ok h_3) dX12_judges_74 ?_
  refine lv_aload_n hx hb dX12_judges_75 rfl (lv_at hl 0 rfl) ?_
  refine va_get (D := D.1) (ci := 12) (v := .ref (aT 38)) (C := RX12) (T := TX12) (N := 114) hx hb hts wi_X12 hown X.1 X.2.1 0 rfl rfl 38 (by decide) (hts _ q6_232) (fun _ h9 => h9) (fl_get (by decide)) dX12_judges_76 ?_
  refine lv_iload_n hx hb dX12_judges_79 rfl (lv_at hl 1 rfl) ?_
  obtain ⟨h_4, hF⟩ := grd_some hF
  refine va_iald (D := D.1) (f := gIA gT 38) hx hb X.1 X.2.1 20 19 rfl rfl (inB_ok h_4) dX12_judges_80 ?_
  refine lv_aload_n hx hb dX12_judges_81 rfl (lv_at hl 0 rfl) ?_
  refine va_get (D := D.1) (ci := 12) (v := .ref (aT 43)) (C := RX12) (T := TX12) (N := 114) hx hb hts wi_X12 hown X.1 X.2.1 0 rfl rfl 43 (by decide) (hts _ q6_237) (fun _ h9 => h9) (fl_get (by decide)) dX12_judges_82 ?_
  refine lv_iload_n hx hb dX12_judges_85 rfl (lv_at hl 1 rfl) ?_
  obtain ⟨h_5, hF⟩ := grd_some hF
  refine va_iald (D := D.1) (f := gIA gT 43) hx hb X.1 X.2.1 25 24 rfl rfl (inB_ok h_5) dX12_judges_86 ?_
  obtain ⟨q_6, hc_7, hF⟩ := bnd_some hF
  refine cV_i (As := [.int (gIA gT 40 v2.toNatClampNeg), .int (gIA gT 41 v2.toNatClampNeg), .int (gIA gT 38 v2.toNatClampNeg), .int (gIA gT 43 v2.toNatClampNeg)]) (rest := []) C X (c_X12_fits l D hT aT yT n gT (gIA gT 40 v2.toNatClampNeg) (gIA gT 41 v2.toNatClampNeg) (gIA gT 38 v2.toNatClampNeg) (gIA gT 43 v2.toNatClampNeg) q_6 hc_7 _) (cwV 4 hts (good_V q9_32 q9_34 q0_102 q1_9 q9_35) rfl rfl rfl (by decide +kernel) ⟨Nat.le_of_ble_eq_true rfl, Nat.le_of_ble_eq_true rfl⟩) (va_recv X.1 X.2.1 (ci := 12) (q0 := 0) rfl rfl) X.1 X.2.1 X.2.2.1 (free_all X) hl.1 rfl rfl (Nat.le_of_ble_eq_true rfl) dX12_judges_87 ⟨Nat.le_of_ble_eq_true rfl, Nat.le_of_ble_eq_true rfl⟩ (fun t H1 locs1 ht hB hk hS => ?_)
  have X : Hx D (tX12 yT) A s H1 locs1 (wX12 hT aT yT q_6.2) := Hx_after_all X ht hB hS
  clear hk hS ht hB
  generalize H1 = H at X ⊢
  generalize locs1 = locs at X ⊢
  refine lv_istore_n (lv' := [(1, .int q_6.1), (0, .ref hT), (2, .int v2), (3, .int v3)]) hx hb dX12_judges_90 rfl hl (by decide) rfl (fun ls hl => ?_)
  refine lv_iload_n hx hb dX12_judges_91 rfl (lv_at hl 0 rfl) ?_
  refine lv_if_eq (tgt := 107) hx hb dX12_judges_92 (by decide) (fun c => ?_) (fun c => ?_)
  · replace hF := iT c hF
    exact (k_X12_judges_107 l D hT aT yT n rec IH) C X (lv_sub hl [1, 0, 2, 3] rfl) hF
  · replace hF := iF c hF
    refine lv_aload_n hx hb dX12_judges_95 rfl (lv_at hl 1 rfl) ?_
    refine va_get (D := D.1) (ci := 12) (v := .ref (aT 46)) (C := RX12) (T := TX12) (N := 114) hx hb hts wi_X12 hown X.1 X.2.1 0 rfl rfl 46 (by decide) (hts _ q7_0) (fun _ h9 => h9) (fl_get (by decide)) dX12_judges_96 ?_
    refine lv_iload_n hx hb dX12_judges_99 rfl (lv_at hl 2 rfl) ?_
    refine lv_aload_n hx hb dX12_judges_100 rfl (lv_at hl 1 rfl) ?_
    refine va_get (D := D.1) (ci := 12) (v := .ref (aT 57)) (C := RX12) (T := TX12) (N := 114) hx hb hts wi_X12 hown X.1 X.2.1 0 rfl rfl 57 (by decide) (hts _ q7_11) (fun _ h9 => h9) (fl_get (by decide)) dX12_judges_101 ?_
    refine lv_iconst (v := (0 : Int32)) hx hb dX12_judges_104 (by decide) ?_
    obtain ⟨h_17, hF⟩ := grd_some hF
    refine va_iald (D := D.1) (f := gIA q_6.2 57) hx hb X.1 X.2.1 39 38 rfl rfl (inB_ok h_17) dX12_judges_105 ?_
    obtain ⟨h_18, hF⟩ := grd_some hF
    refine va_iast (D := D.1) (f := gIA q_6.2 46) hx hb X.1 X.2.1 X.2.2.1 X.2.2.2.1 28 27 rfl rfl (inB_ok h_18) dX12_judges_106 (fun H locs hP hD hS => ?_)
    have X : Hx D (tX12 yT) A s H locs (wX12 hT aT yT (sIA q_6.2 46 (upd (gIA q_6.2 46) v2.toNatClampNeg (gIA q_6.2 57 (0 : Int32).toNatClampNeg)))) := Hx_set X (wG_sIA (i := 27) (k := 46) ndX12 rfl rfl) hP hD hS
    exact (k_X12_judges_107 l D hT aT yT n rec IH) C X (lv_sub hl [1, 0, 2, 3] rfl) hF
set_option maxHeartbeats 4000000 in
set_option maxRecDepth 100000 in
theorem k_X12_judges_167 (l : Launch) (D : Dx) (hT : Nat) (aT : Nat → Nat) (yT : Nat → ClassId) (n : Nat) (rec : (Gs → Int32 → Int32 → Int32 → Option (Int32 × Gs))) (IH : SH_X12_judges l D hT aT yT rec) : S_X12_judges_167 l D hT aT yT (b_X12_judges_167 n rec) := by
  intro p e s m args below meth c H locs A ls gT v2 v3 q C X hl hF
  obtain ⟨hx, hb, hr, hml, hown, hts, hlk⟩ := id C
  unfold b_X12_judges_167 at hF
  refine lv_aload_n hx hb dX12_judges_167 rfl (lv_at hl 0 rfl) ?_
  refine lv_aload_n hx hb dX12_judges_168 rfl (lv_at hl 0 rfl) ?_
  refine va_get (D := D.1) (ci := 12) (v := .ref (aT 49)) (C := RX12) (T := TX12) (N := 114) hx hb hts wi_X12 hown X.1 X.2.1 0 rfl rfl 49 (by decide) (hts _ q7_3) (fun _ h9 => h9) (fl_get (by decide)) dX12_judges_169 ?_
  refine lv_iload_n hx hb dX12_judges_172 rfl (lv_at hl 2 rfl) ?_
  obtain ⟨h_19, hF⟩ := grd_some hF
  refine va_iald (D := D.1) (f := gIA gT 49) hx hb X.1 X.2.1 31 30 rfl rfl (inB_ok h_19) dX12_judges_173 ?_
  refine lv_aload_n hx hb dX12_judges_174 rfl (lv_at hl 0 rfl) ?_
  refine va_get (D := D.1) (ci := 12) (v := .ref (aT 50)) (C := RX12) (T := TX12) (N := 114) hx hb hts wi_X12 hown X.1 X.2.1 0 rfl rfl 50 (by decide) (hts _ q7_4) (fun _ h9 => h9) (fl_get (by decide)) dX12_judges_175 ?_
  refine lv_iload_n hx hb dX12_judges_178 rfl (lv_at hl 2 rfl) ?_
  obtain ⟨h_20, hF⟩ := grd_some hF
  refine va_iald (D := D.1) (f := gIA gT 50) hx hb X.1 X.2.1 32 31 rfl rfl (inB_ok h_20) dX12_judges_179 ?_
  refine lv_iconst (v := (0 : Int32)) hx hb dX12_judges_180 (by decide) ?_
  refine lv_aload_n hx hb dX12_judges_181 rfl (lv_at hl 0 rfl) ?_
  refine va_get (D := D.1) (ci := 12) (v := .ref (aT 51)) (C := RX12) (T := TX12) (N := 114) hx hb hts wi_X12 hown X.1 X.2.1 0 rfl rfl 51 (by decide) (hts _ q7_5) (fun _ h9 => h9) (fl_get (by decide)) dX12_judges_182 ?_
  refine lv_iload_n hx hb dX12_judges_185 rfl (lv_at hl 2 rfl) ?_
  obtain ⟨h_21, hF⟩ := grd_some hF
  refine va_iald (D := D.1) (f := gIA gT 51) hx hb X.1 X.2.1 33 32 rfl rfl (inB_ok h_21) dX12_judges_186 ?_
  obtain ⟨q_22, hc_23, hF⟩ := bnd_some hF
  refine cV_i (As := [.int (gIA gT 49 v3.toNatClampNeg), .int (gIA gT 50 v3.toNatClampNeg), .int (0 : Int32), .int (gIA gT 51 v3.toNatClampNeg)]) (rest := []) C X (c_X12_fits l D hT aT yT n gT (gIA gT 49 v3.toNatClampNeg) (gIA gT 50 v3.toNatClampNeg) (0 : Int32) (gIA gT 51 v3.toNatClampNeg) q_22 hc_23 _) (cwV 4 hts (good_V q9_32 q9_34 q0_102 q1_9 q9_35) rfl rfl rfl (by decide +kernel) ⟨Nat.le_of_ble_eq_true rfl, Nat.le_of_ble_eq_true rfl⟩) (va_recv X.1 X.2.1 (ci := 12) (q0 := 0) rfl rfl) X.1 X.2.1 X.2.2.1 (free_all X) hl.1 rfl rfl (Nat.le_of_ble_eq_true rfl) dX12_judges_187 ⟨Nat.le_of_ble_eq_true rfl, Nat.le_of_ble_eq_true rfl⟩ (fun t H1 locs1 ht hB hk hS => ?_)
  have X : Hx D (tX12 yT) A s H1 locs1 (wX12 hT aT yT q_22.2) := Hx_after_all X ht hB hS
  clear hk hS ht hB
  generalize H1 = H at X ⊢
  generalize locs1 = locs at X ⊢
  refine lv_istore_n (lv' := [(1, .int q_22.1), (0, .ref hT), (2, .int v2), (3, .int v3)]) hx hb dX12_judges_190 rfl hl (by decide) rfl (fun ls hl => ?_)
  refine lv_iinc (v := v3 + (1 : Int32)) (lv' := [(3, .int (v3 + (1 : Int32))), (1, .int q_22.1), (0, .ref hT), (2, .int v2)]) hx hb dX12_judges_191 hl (k := 3) rfl rfl (by decide) rfl (fun ls hl => ?_)
  refine lv_goto (tgt := 11) hx hb dX12_judges_194 (by decide) ?_
  exact IH C X (lv_sub hl [2, 1, 3, 0] rfl) hF
set_option maxHeartbeats 4000000 in
set_option maxRecDepth 100000 in
theorem k_X12_judges_31 (l : Launch) (D : Dx) (hT : Nat) (aT : Nat → Nat) (yT : Nat → ClassId) (n : Nat) (rec : (Gs → Int32 → Int32 → Int32 → Option (Int32 × Gs))) (IH : SH_X12_judges l D hT aT yT rec) : S_X12_judges_31 l D hT aT yT (b_X12_judges_31 n rec) := by
  intro p e s m args below meth c H locs A ls gT v2 v3 q C X hl hF
  obtain ⟨hx, hb, hr, hml, hown, hts, hlk⟩ := id C
  unfold b_X12_judges_31 at hF
  refine lv_iload_n hx hb dX12_judges_31 rfl (lv_at hl 2 rfl) ?_
  refine lv_aload_n hx hb dX12_judges_32 rfl (lv_at hl 0 rfl) ?_
  refine va_get (D := D.1) (ci := 12) (v := .int (gI gT 34)) (C := RX12) (T := TX12) (N := 114) hx hb hts wi_X12 hown X.1 X.2.1 0 rfl rfl 34 (by decide) (hts _ q6_228) (fun _ h9 => h9) (fl_get (by decide)) dX12_judges_33 ?_
  refine lv_icmp_eq (tgt := 62) hx hb dX12_judges_36 (by decide) (fun c => ?_) (fun c => ?_)
  · replace hF := iT c hF
    exact (k_X12_judges_62 l D hT aT yT n rec IH) C X (lv_sub hl [0, 1, 2] rfl) hF
  · replace hF := iF c hF
    refine lv_iload_n hx hb dX12_judges_39 rfl (lv_at hl 1 rfl) ?_
    refine lv_aload_n hx hb dX12_judges_40 rfl (lv_at hl 0 rfl) ?_
    refine va_get (D := D.1) (ci := 12) (v := .int (gI gT 33)) (C := RX12) (T := TX12) (N := 114) hx hb hts wi_X12 hown X.1 X.2.1 0 rfl rfl 33 (by decide) (hts _ q6_227) (fun _ h9 => h9) (fl_get (by decide)) dX12_judges_41 ?_
    refine lv_icmp_ge (tgt := 167) hx hb dX12_judges_44 (by decide) (fun c => ?_) (fun c => ?_)
    · replace hF := iT c hF
      exact (k_X12_judges_167 l D hT aT yT n rec IH) C X (lv_sub hl [0, 1, 2] rfl) hF
    · replace hF := iF c hF
      refine lv_aload_n hx hb dX12_judges_47 rfl (lv_at hl 0 rfl) ?_
      refine va_get (D := D.1) (ci := 12) (v := .ref (aT 45)) (C := RX12) (T := TX12) (N := 114) hx hb hts wi_X12 hown X.1 X.2.1 0 rfl rfl 45 (by decide) (hts _ q6_239) (fun _ h9 => h9) (fl_get (by decide)) dX12_judges_48 ?_
      refine lv_iload_n hx hb dX12_judges_51 rfl (lv_at hl 1 rfl) ?_
      obtain ⟨h_24, hF⟩ := grd_some hF
      refine va_iald (D := D.1) (f := gIA gT 45) hx hb X.1 X.2.1 27 26 rfl rfl (inB_ok h_24) dX12_judges_52 ?_
      refine lv_aload_n hx hb dX12_judges_53 rfl (lv_at hl 0 rfl) ?_
      refine va_get (D := D.1) (ci := 12) (v := .ref (aT 52)) (C := RX12) (T := TX12) (N := 114) hx hb hts wi_X12 hown X.1 X.2.1 0 rfl rfl 52 (by decide) (hts _ q7_6) (fun _ h9 => h9) (fl_get (by decide)) dX12_judges_54 ?_
      refine lv_iload_n hx hb dX12_judges_57 rfl (lv_at hl 2 rfl) ?_
      obtain ⟨h_25, hF⟩ := grd_some hF
      refine va_iald (D := D.1) (f := gIA gT 52) hx hb X.1 X.2.1 34 33 rfl rfl (inB_ok h_25) dX12_judges_58 ?_
      refine lv_icmp_ge (tgt := 167) hx hb dX12_judges_59 (by decide) (fun c => ?_) (fun c => ?_)
      · replace hF := iT c hF
        exact (k_X12_judges_167 l D hT aT yT n rec IH) C X (lv_sub hl [0, 1, 2] rfl) hF
      · replace hF := iF c hF
        exact (k_X12_judges_62 l D hT aT yT n rec IH) C X (lv_sub hl [0, 1, 2] rfl) hF
set_option maxHeartbeats 4000000 in
set_option maxRecDepth 100000 in
theorem k_X12_judges_11 (l : Launch) (D : Dx) (hT : Nat) (aT : Nat → Nat) (yT : Nat → ClassId) (n : Nat) (rec : (Gs → Int32 → Int32 → Int32 → Option (Int32 × Gs))) (IH : SH_X12_judges l D hT aT yT rec) : S_X12_judges_11 l D hT aT yT (h_X12_judges_11 n rec) := by
  intro p e s m args below meth c H locs A ls gT v1 v2 v3 q C X hl hF
  obtain ⟨hx, hb, hr, hml, hown, hts, hlk⟩ := id C
  unfold h_X12_judges_11 at hF
  refine lv_iload_n hx hb dX12_judges_11 rfl (lv_at hl 1 rfl) ?_
  refine lv_if_eq (tgt := 197) hx hb dX12_judges_12 (by decide) (fun c => ?_) (fun c => ?_)
  · replace hF := iT c hF
    exact (k_X12_judges_197 l D hT aT yT n rec IH) C X (lv_sub hl [0, 1] rfl) hF
  · replace hF := iF c hF
    refine lv_iload_n hx hb dX12_judges_15 rfl (lv_at hl 2 rfl) ?_
    refine lv_aload_n hx hb dX12_judges_16 rfl (lv_at hl 0 rfl) ?_
    refine va_get (D := D.1) (ci := 12) (v := .int (gI gT 33)) (C := RX12) (T := TX12) (N := 114) hx hb hts wi_X12 hown X.1 X.2.1 0 rfl rfl 33 (by decide) (hts _ q6_227) (fun _ h9 => h9) (fl_get (by decide)) dX12_judges_17 ?_
    refine lv_icmp_lt (tgt := 31) hx hb dX12_judges_20 (by decide) (fun c => ?_) (fun c => ?_)
    · replace hF := iT c hF
      exact (k_X12_judges_31 l D hT aT yT n rec IH) C X (lv_sub hl [0, 2, 3] rfl) hF
    · replace hF := iF c hF
      refine lv_iload_n hx hb dX12_judges_23 rfl (lv_at hl 3 rfl) ?_
      refine lv_aload_n hx hb dX12_judges_24 rfl (lv_at hl 0 rfl) ?_
      refine va_get (D := D.1) (ci := 12) (v := .int (gI gT 34)) (C := RX12) (T := TX12) (N := 114) hx hb hts wi_X12 hown X.1 X.2.1 0 rfl rfl 34 (by decide) (hts _ q6_228) (fun _ h9 => h9) (fl_get (by decide)) dX12_judges_25 ?_
      refine lv_icmp_ge (tgt := 197) hx hb dX12_judges_28 (by decide) (fun c => ?_) (fun c => ?_)
      · replace hF := iT c hF
        exact (k_X12_judges_197 l D hT aT yT n rec IH) C X (lv_sub hl [0, 1] rfl) hF
      · replace hF := iF c hF
        exact (k_X12_judges_31 l D hT aT yT n rec IH) C X (lv_sub hl [0, 2, 3] rfl) hF
theorem kL_X12_judges (l : Launch) (D : Dx) (hT : Nat) (aT : Nat → Nat) (yT : Nat → ClassId) (n : Nat) : ∀ k, SH_X12_judges l D hT aT yT (L_X12_judges n k)
  | 0 => fun _ _ _ h => by cases h
  | k + 1 => k_X12_judges_11 l D hT aT yT n _ (kL_X12_judges l D hT aT yT n k)
set_option maxHeartbeats 4000000 in
set_option maxRecDepth 100000 in
theorem c_X12_judges (l : Launch) (D : Dx) (hT : Nat) (aT : Nat → Nat) (yT : Nat → ClassId) (n : Nat) (gT : Gs) (q : Int32 × Gs) (hF : f_X12_judges n gT = some q) (sz : Nat) : Met l yX12_judges (ws_ yX12_judges cX12_judges 4 (some .boolean)) R_X12_judges (PC D (tX12 yT) [.ref hT] (wX12 hT aT yT gT) sz) (QI D (va_A (wX12 hT aT yT gT) sz) (wX12 hT aT yT q.2) q.1) 0 0 (va_A (wX12 hT aT yT gT) sz) := by
  refine Met.ofW (cc := cX12_judges) (maxL := 4) (ret := (some .boolean)) (by decide) rfl ?_
  intro p e s m args below meth c s₁ B hml hv
  obtain ⟨rfl, hsz, hP, hK, hD, hN⟩ := hv
  subst hsz
  have C : Cx p s m _ meth c cX12_judges (some .boolean) 4 RX12 lw_all := Cx_of B hml
  have X := Hx_start hP hK hD hN
  obtain ⟨hx, hb, hr, -, hown, hts, hlk⟩ := id C
  generalize va_A (wX12 hT aT yT gT) s.heap.size = A at X ⊢
  have hl := lv_entry ([.ref hT]) (n := 4) (Nat.le_of_ble_eq_true rfl)
  rw [lg_entry_eq]
  generalize (lg_sl ([.ref hT]) ++ List.replicate (4 - (lg_sl ([.ref hT])).length) Slot.unset).toArray = ls at hl ⊢
  have hl : lv_has ls 4 [(0, .ref hT)] := hl
  unfold f_X12_judges at hF
  refine lv_aload_n hx hb dX12_judges_0 rfl (lv_at hl 0 rfl) ?_
  refine lv_iconst (v := (1 : Int32)) hx hb dX12_judges_1 (by decide) ?_
  refine va_put (D := D.1) (ci := 12) (v := .int (1 : Int32)) (ty := .boolean) (C := RX12) (T := TX12) (N := 114) hx hb hts wi_X12 tyX12 tyX12_ok nmX12 hown X.1 X.2.1 X.2.2.1 X.2.2.2.1 0 rfl rfl 59 (by decide) (hts _ q7_13) (fun _ h9 => h9) rfl (by decide +kernel) rfl rfl (by rw [List.length_map, List.length_range]; decide) dX12_judges_2 (fun H locs hP hD hS => ?_)
  have X : Hx D (tX12 yT) A s H locs (wX12 hT aT yT (sI gT 59 (1 : Int32))) := Hx_set X (wG_sI (k := 59) rfl) hP hD hS
  refine lv_iconst (v := (1 : Int32)) hx hb dX12_judges_5 (by decide) ?_
  refine lv_istore_n (lv' := [(1, .int (1 : Int32)), (0, .ref hT)]) hx hb dX12_judges_6 rfl hl (by decide) rfl (fun ls hl => ?_)
  refine lv_iconst (v := (0 : Int32)) hx hb dX12_judges_7 (by decide) ?_
  refine lv_istore_n (lv' := [(2, .int (0 : Int32)), (1, .int (1 : Int32)), (0, .ref hT)]) hx hb dX12_judges_8 rfl hl (by decide) rfl (fun ls hl => ?_)
  refine lv_iconst (v := (0 : Int32)) hx hb dX12_judges_9 (by decide) ?_
  refine lv_istore_n (lv' := [(3, .int (0 : Int32)), (2, .int (0 : Int32)), (1, .int (1 : Int32)), (0, .ref hT)]) hx hb dX12_judges_10 rfl hl (by decide) rfl (fun ls hl => ?_)
  exact (kL_X12_judges l D hT aT yT n n) C X (lv_sub hl [3, 2, 1, 0] rfl) hF
