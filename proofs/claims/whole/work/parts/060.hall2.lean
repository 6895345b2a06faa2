abbrev wKP (h : Nat) (_ : Nat → Nat) (y : Nat → ClassId) (g : Gs) : va_W := [(h, .inl (y 0, 4, .inr (.inr (.inr (.inr (gR g))))))]
abbrev tKP (y : Nat → ClassId) : List (ClassId × FieldType) := [(y 0, (.object "TurningHall$State"))]
theorem q2_158 : Cond.fieldLink RX11 74 "TurningHall" "reader" "LTurningHall$Reader;" ∈ lw_all := lw_in (tc_2 (List.mem_of_getElem? (i := 158) rfl)) rfl
theorem q2_206 : Cond.methodLink RX11 93 yX11_readerOfTape ∈ lw_all := lw_in (tc_2 (List.mem_of_getElem? (i := 206) rfl)) rfl
theorem q2_208 : Cond.instanceMethod yX11_readerOfTape ∈ lw_all := lw_in (tc_2 (List.mem_of_getElem? (i := 208) rfl)) rfl
theorem q0_1 : Cond.selects RX11 yX11_readerOfTape yX11_readerOfTape ∈ lw_all := lw_in (tc_0 (List.mem_of_getElem? (i := 1) rfl)) rfl
theorem q2_209 : Cond.code yX11_readerOfTape cX11_readerOfTape 2 (some (.object "TurningHall$Reader")) ∈ lw_all := lw_in (tc_2 (List.mem_of_getElem? (i := 209) rfl)) rfl
theorem q2_156 : Cond.fieldLink RX11 67 "TurningHall" "spare" "LTurningHall$Plan;" ∈ lw_all := lw_in (tc_2 (List.mem_of_getElem? (i := 156) rfl)) rfl
theorem q3_107 : Cond.methodLink RX11 97 yX5_readPlan ∈ lw_all := lw_in (tc_3 (List.mem_of_getElem? (i := 107) rfl)) rfl
theorem q3_108 : Cond.instanceMethod yX5_readPlan ∈ lw_all := lw_in (tc_3 (List.mem_of_getElem? (i := 108) rfl)) rfl
theorem q3_109 : Cond.selects RX5 yX5_readPlan yX5_readPlan ∈ lw_all := lw_in (tc_3 (List.mem_of_getElem? (i := 109) rfl)) rfl
theorem q3_110 : Cond.code yX5_readPlan cX5_readPlan 5 (some .int) ∈ lw_all := lw_in (tc_3 (List.mem_of_getElem? (i := 110) rfl)) rfl
theorem q5_15 : Cond.methodLink RX11 106 yX9_clear ∈ lw_all := lw_in (tc_5 (List.mem_of_getElem? (i := 15) rfl)) rfl
theorem q5_16 : Cond.instanceMethod yX9_clear ∈ lw_all := lw_in (tc_5 (List.mem_of_getElem? (i := 16) rfl)) rfl
theorem q5_17 : Cond.selects RX9 yX9_clear yX9_clear ∈ lw_all := lw_in (tc_5 (List.mem_of_getElem? (i := 17) rfl)) rfl
theorem q5_18 : Cond.code yX9_clear cX9_clear 1 none ∈ lw_all := lw_in (tc_5 (List.mem_of_getElem? (i := 18) rfl)) rfl
theorem q1_92 : Cond.fieldLinkNest RX11 109 "TurningHall$State" "planNumber" "I" "TurningHall" ∈ lw_tbl := tc_1 (List.mem_of_getElem? (i := 92) rfl)
theorem q5_28 : Cond.methodLink RX11 112 yX1_start ∈ lw_all := lw_in (tc_5 (List.mem_of_getElem? (i := 28) rfl)) rfl
theorem q5_29 : Cond.instanceMethod yX1_start ∈ lw_all := lw_in (tc_5 (List.mem_of_getElem? (i := 29) rfl)) rfl
theorem q5_30 : Cond.selects RX1 yX1_start yX1_start ∈ lw_all := lw_in (tc_5 (List.mem_of_getElem? (i := 30) rfl)) rfl
theorem q5_31 : Cond.code yX1_start cX1_start 4 none ∈ lw_all := lw_in (tc_5 (List.mem_of_getElem? (i := 31) rfl)) rfl
theorem q3_69 : Cond.fieldLinkNest RX11 103 "TurningHall$Reader" "faultPlace" "I" "TurningHall" ∈ lw_tbl := tc_3 (List.mem_of_getElem? (i := 69) rfl)
theorem q2_157 : Cond.fieldLink RX11 70 "TurningHall" "asked" "LTurningHall$Code;" ∈ lw_all := lw_in (tc_2 (List.mem_of_getElem? (i := 157) rfl)) rfl
theorem q6_24 : Cond.methodLink RX11 264 yX5_readAsked ∈ lw_all := lw_in (tc_6 (List.mem_of_getElem? (i := 24) rfl)) rfl
theorem q6_25 : Cond.instanceMethod yX5_readAsked ∈ lw_all := lw_in (tc_6 (List.mem_of_getElem? (i := 25) rfl)) rfl
theorem q6_26 : Cond.selects RX5 yX5_readAsked yX5_readAsked ∈ lw_all := lw_in (tc_6 (List.mem_of_getElem? (i := 26) rfl)) rfl
theorem q6_27 : Cond.code yX5_readAsked cX5_readAsked 4 (some .int) ∈ lw_all := lw_in (tc_6 (List.mem_of_getElem? (i := 27) rfl)) rfl
theorem q6_18 : Cond.methodLink RX11 243 yX11_readAsked ∈ lw_all := lw_in (tc_6 (List.mem_of_getElem? (i := 18) rfl)) rfl
theorem q6_20 : Cond.instanceMethod yX11_readAsked ∈ lw_all := lw_in (tc_6 (List.mem_of_getElem? (i := 20) rfl)) rfl
theorem q0_62 : Cond.selects RX11 yX11_readAsked yX11_readAsked ∈ lw_all := lw_in (tc_0 (List.mem_of_getElem? (i := 62) rfl)) rfl
theorem q6_21 : Cond.code yX11_readAsked cX11_readAsked 2 (some (.object "TurningHall$Code")) ∈ lw_all := lw_in (tc_6 (List.mem_of_getElem? (i := 21) rfl)) rfl
theorem q6_33 : Cond.methodLink RX11 247 yX1_run ∈ lw_all := lw_in (tc_6 (List.mem_of_getElem? (i := 33) rfl)) rfl
theorem q2_23 : Cond.fieldLinkNest RX11 254 "TurningHall$Code" "result" "[I" "TurningHall" ∈ lw_tbl := tc_2 (List.mem_of_getElem? (i := 23) rfl)
theorem q1_140 : Cond.fieldLinkNest RX11 257 "TurningHall$Machine" "wholes" "[J" "TurningHall" ∈ lw_tbl := tc_1 (List.mem_of_getElem? (i := 140) rfl)
theorem q1_142 : Cond.fieldLinkNest RX11 260 "TurningHall$Machine" "doubles" "[D" "TurningHall" ∈ lw_tbl := tc_1 (List.mem_of_getElem? (i := 142) rfl)
theorem q1_145 : Cond.fieldLinkNest RX11 251 "TurningHall$Machine" "jam" "I" "TurningHall" ∈ lw_tbl := tc_1 (List.mem_of_getElem? (i := 145) rfl)
theorem q2_151 : Cond.fieldLink RX11 31 "TurningHall" "kept" "[LTurningHall$State;" ∈ lw_all := lw_in (tc_2 (List.mem_of_getElem? (i := 151) rfl)) rfl
theorem q6_153 : Cond.methodLink RX11 343 yX9_takeOver ∈ lw_all := lw_in (tc_6 (List.mem_of_getElem? (i := 153) rfl)) rfl
theorem q6_154 : Cond.instanceMethod yX9_takeOver ∈ lw_all := lw_in (tc_6 (List.mem_of_getElem? (i := 154) rfl)) rfl
theorem q6_155 : Cond.selects RX9 yX9_takeOver yX9_takeOver ∈ lw_all := lw_in (tc_6 (List.mem_of_getElem? (i := 155) rfl)) rfl
theorem q6_156 : Cond.code yX9_takeOver cX9_takeOver 2 none ∈ lw_all := lw_in (tc_6 (List.mem_of_getElem? (i := 156) rfl)) rfl
/-! ### X11_readerOfTape -/
theorem dX11_readerOfTape_0 : decode cX11_readerOfTape 0 = .ok (.aload_n 0, 1) := by decide +kernel
theorem dX11_readerOfTape_1 : decode cX11_readerOfTape 1 = .ok (.getfield 74, 3) := by decide +kernel
theorem dX11_readerOfTape_4 : decode cX11_readerOfTape 4 = .ok (.astore_n 1, 1) := by decide +kernel
theorem dX11_readerOfTape_5 : decode cX11_readerOfTape 5 = .ok (.aload_n 1, 1) := by decide +kernel
theorem dX11_readerOfTape_6 : decode cX11_readerOfTape 6 = .ok (.ifnonnull 28, 3) := by decide +kernel
theorem dX11_readerOfTape_9 : decode cX11_readerOfTape 9 = .ok (.new 98, 3) := by decide +kernel
theorem dX11_readerOfTape_12 : decode cX11_readerOfTape 12 = .ok (.dup, 1) := by decide +kernel
theorem dX11_readerOfTape_13 : decode cX11_readerOfTape 13 = .ok (.aload_n 0, 1) := by decide +kernel
theorem dX11_readerOfTape_14 : decode cX11_readerOfTape 14 = .ok (.getfield 9, 3) := by decide +kernel
theorem dX11_readerOfTape_17 : decode cX11_readerOfTape 17 = .ok (.aload_n 0, 1) := by decide +kernel
theorem dX11_readerOfTape_18 : decode cX11_readerOfTape 18 = .ok (.getfield 20, 3) := by decide +kernel
theorem dX11_readerOfTape_21 : decode cX11_readerOfTape 21 = .ok (.aload_n 0, 1) := by decide +kernel
theorem dX11_readerOfTape_22 : decode cX11_readerOfTape 22 = .ok (.getfield 63, 3) := by decide +kernel
theorem dX11_readerOfTape_25 : decode cX11_readerOfTape 25 = .ok (.invokespecial 119, 3) := by decide +kernel
theorem dX11_readerOfTape_28 : decode cX11_readerOfTape 28 = .ok (.astore_n 1, 1) := by decide +kernel
theorem dX11_readerOfTape_29 : decode cX11_readerOfTape 29 = .ok (.aload_n 0, 1) := by decide +kernel
theorem dX11_readerOfTape_30 : decode cX11_readerOfTape 30 = .ok (.aload_n 1, 1) := by decide +kernel
theorem dX11_readerOfTape_31 : decode cX11_readerOfTape 31 = .ok (.putfield 74, 3) := by decide +kernel
theorem dX11_readerOfTape_34 : decode cX11_readerOfTape 34 = .ok (.aload_n 1, 1) := by decide +kernel
theorem dX11_readerOfTape_35 : decode cX11_readerOfTape 35 = .ok (.areturn, 1) := by decide +kernel
abbrev R_X11_readerOfTape : Room := ({ frames := 0, cells := 0, slots := 0, locals := 0 } : Room)
def f_X11_readerOfTape (hT_11 : Nat) (gT : Gs) (gT_11 : Gs) : Option (Unit) :=
  grd (rEq (gR gT 11) hT_11) (some ())
set_option maxHeartbeats 4000000 in
set_option maxRecDepth 100000 in
theorem c_X11_readerOfTape (l : Launch) (D : Dx) (hT : Nat) (aT : Nat → Nat) (yT : Nat → ClassId) (hT_11 : Nat) (aT_11 : Nat → Nat) (yT_11 : Nat → ClassId) (gT : Gs) (gT_11 : Gs) (q : Unit) (hF : f_X11_readerOfTape hT_11 gT gT_11 = some q) (sz : Nat) : Met l yX11_readerOfTape (ws_ yX11_readerOfTape cX11_readerOfTape 2 (some (.object "TurningHall$Reader"))) R_X11_readerOfTape (PC D (tX11 yT ++ (tX5 yT_11)) [.ref hT] (wX11 hT aT yT gT ++ (wX5 hT_11 aT_11 yT_11 gT_11)) sz) (QR D (va_A (wX11 hT aT yT gT ++ (wX5 hT_11 aT_11 yT_11 gT_11)) sz) (wX11 hT aT yT gT ++ (wX5 hT_11 aT_11 yT_11 gT_11)) hT_11) 0 0 (va_A (wX11 hT aT yT gT ++ (wX5 hT_11 aT_11 yT_11 gT_11)) sz) := by
  refine Met.ofW (cc := cX11_readerOfTape) (maxL := 2) (ret := (some (.object "TurningHall$Reader"))) (by decide) rfl ?_
  intro p e s m args below meth c s₁ B hml hv
  obtain ⟨rfl, hsz, hP, hK, hD, hN⟩ := hv
  subst hsz
  have C : Cx p s m _ meth c cX11_readerOfTape (some (.object "TurningHall$Reader")) 2 RX11 lw_all := Cx_of B hml
  have X := Hx_start hP hK hD hN
  obtain ⟨hx, hb, hr, -, hown, hts, hlk⟩ := id C
  generalize va_A (wX11 hT aT yT gT ++ (wX5 hT_11 aT_11 yT_11 gT_11)) s.heap.size = A at X ⊢
  have hl := lv_entry ([.ref hT]) (n := 2) (Nat.le_of_ble_eq_true rfl)
  rw [lg_entry_eq]
  generalize (lg_sl ([.ref hT]) ++ List.replicate (2 - (lg_sl ([.ref hT])).length) Slot.unset).toArray = ls at hl ⊢
  have hl : lv_has ls 2 [(0, .ref hT)] := hl
  have hR : 0 ≤ R_X11_readerOfTape.frames ∧ 0 ≤ R_X11_readerOfTape.locals := ⟨Nat.le_of_ble_eq_true rfl, Nat.le_of_ble_eq_true rfl⟩
  have hcs : 0 ≤ R_X11_readerOfTape.cells ∧ 0 ≤ R_X11_readerOfTape.slots := ⟨Nat.le_of_ble_eq_true rfl, Nat.le_of_ble_eq_true rfl⟩
  unfold f_X11_readerOfTape at hF
  refine lv_aload_n hx hb dX11_readerOfTape_0 rfl (lv_at hl 0 rfl) ?_
  obtain ⟨h_1, hF⟩ := grd_some hF
  refine va_get (D := D.1) (ci := 11) (v := .ref hT_11) (C := RX11) (T := TX11) (N := 14) hx hb hts wi_X11 hown X.1 X.2.1 0 rfl rfl 11 (by decide) (hts _ q2_158) (fun _ h9 => h9) ((fl_get (by decide)).trans (rf_eq h_1)) dX11_readerOfTape_1 ?_
  refine lv_astore_n (lv' := [(1, .ref hT_11), (0, .ref hT)]) hx hb dX11_readerOfTape_4 rfl hl (by decide) rfl (fun ls hl => ?_)
  refine lv_aload_n hx hb dX11_readerOfTape_5 rfl (lv_at hl 0 rfl) ?_
  refine lv_ifnonnull (tgt := 34) hx hb dX11_readerOfTape_6 (by decide) ?_
  refine lv_aload_n hx hb dX11_readerOfTape_34 rfl (lv_at hl 0 rfl) ?_
  have hq := Option.some.inj hF
  subst hq
  exact rt_r C X dX11_readerOfTape_35

/-! ### X11_plan -/
theorem dX11_plan_0 : decode cX11_plan 0 = .ok (.aload_n 0, 1) := by decide +kernel
theorem dX11_plan_1 : decode cX11_plan 1 = .ok (.invokevirtual 93, 3) := by decide +kernel
theorem dX11_plan_4 : decode cX11_plan 4 = .ok (.astore_n 1, 1) := by decide +kernel
theorem dX11_plan_5 : decode cX11_plan 5 = .ok (.aload_n 0, 1) := by decide +kernel
theorem dX11_plan_6 : decode cX11_plan 6 = .ok (.getfield 67, 3) := by decide +kernel
theorem dX11_plan_9 : decode cX11_plan 9 = .ok (.ifnonnull 13, 3) := by decide +kernel
theorem dX11_plan_12 : decode cX11_plan 12 = .ok (.new 60, 3) := by decide +kernel
theorem dX11_plan_15 : decode cX11_plan 15 = .ok (.dup, 1) := by decide +kernel
theorem dX11_plan_16 : decode cX11_plan 16 = .ok (.invokespecial 62, 3) := by decide +kernel
theorem dX11_plan_19 : decode cX11_plan 19 = .ok (.goto 7, 3) := by decide +kernel
theorem dX11_plan_22 : decode cX11_plan 22 = .ok (.aload_n 0, 1) := by decide +kernel
theorem dX11_plan_23 : decode cX11_plan 23 = .ok (.getfield 67, 3) := by decide +kernel
theorem dX11_plan_26 : decode cX11_plan 26 = .ok (.astore_n 2, 1) := by decide +kernel
theorem dX11_plan_27 : decode cX11_plan 27 = .ok (.aload_n 0, 1) := by decide +kernel
theorem dX11_plan_28 : decode cX11_plan 28 = .ok (.aload_n 2, 1) := by decide +kernel
theorem dX11_plan_29 : decode cX11_plan 29 = .ok (.putfield 67, 3) := by decide +kernel
theorem dX11_plan_32 : decode cX11_plan 32 = .ok (.aload_n 0, 1) := by decide +kernel
theorem dX11_plan_33 : decode cX11_plan 33 = .ok (.aload_n 1, 1) := by decide +kernel
theorem dX11_plan_34 : decode cX11_plan 34 = .ok (.aload_n 0, 1) := by decide +kernel
theorem dX11_plan_35 : decode cX11_plan 35 = .ok (.getfield 13, 3) := by decide +kernel
theorem dX11_plan_38 : decode cX11_plan 38 = .ok (.aload_n 2, 1) := by decide +kernel
theorem dX11_plan_39 : decode cX11_plan 39 = .ok (.invokevirtual 97, 3) := by decide +kernel
theorem dX11_plan_42 : decode cX11_plan 42 = .ok (.putfield 78, 3) := by decide +kernel
theorem dX11_plan_45 : decode cX11_plan 45 = .ok (.aload_n 0, 1) := by decide +kernel
theorem dX11_plan_46 : decode cX11_plan 46 = .ok (.iconst 0, 1) := by decide +kernel
theorem dX11_plan_47 : decode cX11_plan 47 = .ok (.putfield 13, 3) := by decide +kernel
theorem dX11_plan_50 : decode cX11_plan 50 = .ok (.aload_n 0, 1) := by decide +kernel
theorem dX11_plan_51 : decode cX11_plan 51 = .ok (.getfield 78, 3) := by decide +kernel
theorem dX11_plan_54 : decode cX11_plan 54 = .ok (.ifCond .eq 10, 3) := by decide +kernel
theorem dX11_plan_57 : decode cX11_plan 57 = .ok (.iconst (-1), 1) := by decide +kernel
theorem dX11_plan_58 : decode cX11_plan 58 = .ok (.aload_n 1, 1) := by decide +kernel
theorem dX11_plan_59 : decode cX11_plan 59 = .ok (.getfield 103, 3) := by decide +kernel
theorem dX11_plan_62 : decode cX11_plan 62 = .ok (.isub, 1) := by decide +kernel
theorem dX11_plan_63 : decode cX11_plan 63 = .ok (.ireturn, 1) := by decide +kernel
theorem dX11_plan_64 : decode cX11_plan 64 = .ok (.aload_n 0, 1) := by decide +kernel
theorem dX11_plan_65 : decode cX11_plan 65 = .ok (.aload_n 0, 1) := by decide +kernel
theorem dX11_plan_66 : decode cX11_plan 66 = .ok (.getfield 63, 3) := by decide +kernel
theorem dX11_plan_69 : decode cX11_plan 69 = .ok (.putfield 67, 3) := by decide +kernel
theorem dX11_plan_72 : decode cX11_plan 72 = .ok (.aload_n 0, 1) := by decide +kernel
theorem dX11_plan_73 : decode cX11_plan 73 = .ok (.aload_n 2, 1) := by decide +kernel
theorem dX11_plan_74 : decode cX11_plan 74 = .ok (.putfield 63, 3) := by decide +kernel
theorem dX11_plan_77 : decode cX11_plan 77 = .ok (.aload_n 0, 1) := by decide +kernel
theorem dX11_plan_78 : decode cX11_plan 78 = .ok (.getfield 27, 3) := by decide +kernel
theorem dX11_plan_81 : decode cX11_plan 81 = .ok (.invokevirtual 106, 3) := by decide +kernel
theorem dX11_plan_84 : decode cX11_plan 84 = .ok (.aload_n 0, 1) := by decide +kernel
theorem dX11_plan_85 : decode cX11_plan 85 = .ok (.getfield 27, 3) := by decide +kernel
theorem dX11_plan_88 : decode cX11_plan 88 = .ok (.dup, 1) := by decide +kernel
theorem dX11_plan_89 : decode cX11_plan 89 = .ok (.getfield 109, 3) := by decide +kernel
theorem dX11_plan_92 : decode cX11_plan 92 = .ok (.iconst 1, 1) := by decide +kernel
theorem dX11_plan_93 : decode cX11_plan 93 = .ok (.iadd, 1) := by decide +kernel
theorem dX11_plan_94 : decode cX11_plan 94 = .ok (.putfield 109, 3) := by decide +kernel
theorem dX11_plan_97 : decode cX11_plan 97 = .ok (.aload_n 0, 1) := by decide +kernel
theorem dX11_plan_98 : decode cX11_plan 98 = .ok (.getfield 40, 3) := by decide +kernel
theorem dX11_plan_101 : decode cX11_plan 101 = .ok (.aload_n 2, 1) := by decide +kernel
theorem dX11_plan_102 : decode cX11_plan 102 = .ok (.invokevirtual 112, 3) := by decide +kernel
theorem dX11_plan_105 : decode cX11_plan 105 = .ok (.aload_n 2, 1) := by decide +kernel
theorem dX11_plan_106 : decode cX11_plan 106 = .ok (.getfield 116, 3) := by decide +kernel
theorem dX11_plan_109 : decode cX11_plan 109 = .ok (.ireturn, 1) := by decide +kernel
abbrev R_X11_plan : Room := ({ frames := 10, cells := 0, slots := 0, locals := 253 } : Room)
def b_X11_plan_26 (n : Nat) (hT_8 : Nat) (hT_9 : Nat) (aT_9 : Nat → Nat) (hT_11 : Nat) (gT : Gs) (gT_0 : Gs) (gT_2 : Gs) (gT_3 : Gs) (gT_5 : Gs) (gT_8 : Gs) (gT_8_0 : Gs) (gT_9 : Gs) (gT_9_0 : Gs) (gT_11 : Gs) (gT_11_1 : Gs) (gT_11_2 : Gs) (gT_11_3 : Gs) : Option (Int32 × Gs × Gs × Gs × Gs × Gs × Gs × Gs × Gs × Gs) :=
  bnd (f_X5_readPlan n hT_9 aT_9 gT_11 gT_0 gT_11_1 gT_2 gT_11_2 gT_11_3 gT_9 gT_9_0 (gI gT 1)) (fun q_5 => if q_5.1 = 0 then (grd (rEq (gR gT 8) hT_8) (bnd (f_X9_clear n gT_3) (fun q_8 => bnd (f_X1_start n gT_5 gT_2 (sI q_8 16 ((gI q_8 16) + (1 : Int32))) q_5.2.2.2.2.2.1 q_5.2.2.2.2.2.2) (fun q_10 => some (gI q_5.2.2.2.2.2.1 4, (sR (sR (sI (sI (sR gT 9 (some hT_9)) 12 q_5.1) 1 (0 : Int32)) 9 (some hT_8)) 8 (some hT_9)), q_10.2, q_10.1, q_5.2.2.2.2.2.1, q_5.2.2.2.2.2.2, q_5.2.1, q_5.2.2.1, q_5.2.2.2.1, q_5.2.2.2.2.1))))) else (some ((-1 : Int32) - (gI q_5.2.1 17), (sI (sI (sR gT 9 (some hT_9)) 12 q_5.1) 1 (0 : Int32)), gT_3, gT_5, q_5.2.2.2.2.2.1, q_5.2.2.2.2.2.2, q_5.2.1, q_5.2.2.1, q_5.2.2.2.1, q_5.2.2.2.2.1)))
def b_X11_plan_4 (n : Nat) (hT_8 : Nat) (hT_9 : Nat) (aT_9 : Nat → Nat) (hT_11 : Nat) (gT : Gs) (gT_0 : Gs) (gT_2 : Gs) (gT_3 : Gs) (gT_5 : Gs) (gT_8 : Gs) (gT_8_0 : Gs) (gT_9 : Gs) (gT_9_0 : Gs) (gT_11 : Gs) (gT_11_1 : Gs) (gT_11_2 : Gs) (gT_11_3 : Gs) : Option (Int32 × Gs × Gs × Gs × Gs × Gs × Gs × Gs × Gs × Gs) :=
  grd (rEq (gR gT 9) hT_9) (grd (rEq (gR gT 9) hT_9) (b_X11_plan_26 n hT_8 hT_9 aT_9 hT_11 gT gT_0 gT_2 gT_3 gT_5 gT_8 gT_8_0 gT_9 gT_9_0 gT_11 gT_11_1 gT_11_2 gT_11_3))
def f_X11_plan (n : Nat) (hT_8 : Nat) (hT_9 : Nat) (aT_9 : Nat → Nat) (hT_11 : Nat) (gT : Gs) (gT_0 : Gs) (gT_2 : Gs) (gT_3 : Gs) (gT_5 : Gs) (gT_8 : Gs) (gT_8_0 : Gs) (gT_9 : Gs) (gT_9_0 : Gs) (gT_11 : Gs) (gT_11_1 : Gs) (gT_11_2 : Gs) (gT_11_3 : Gs) : Option (Int32 × Gs × Gs × Gs × Gs × Gs × Gs × Gs × Gs × Gs) :=
  bnd (f_X11_readerOfTape hT_11 gT gT_11) (fun q_1 => b_X11_plan_4 n hT_8 hT_9 aT_9 hT_11 gT gT_0 gT_2 gT_3 gT_5 gT_8 gT_8_0 gT_9 gT_9_0 gT_11 gT_11_1 gT_11_2 gT_11_3)
def S_X11_plan_26 (l : Launch) (D : Dx) (hT : Nat) (aT : Nat → Nat) (yT : Nat → ClassId) (aT_0 : Nat → Nat) (yT_0 : Nat → ClassId) (aT_2 : Nat → Nat) (yT_2 : Nat → ClassId) (aT_3 : Nat → Nat) (yT_3 : Nat → ClassId) (aT_5 : Nat → Nat) (yT_5 : Nat → ClassId) (hT_8 : Nat) (aT_8 : Nat → Nat) (yT_8 : Nat → ClassId) (aT_8_0 : Nat → Nat) (yT_8_0 : Nat → ClassId) (hT_9 : Nat) (aT_9 : Nat → Nat) (yT_9 : Nat → ClassId) (aT_9_0 : Nat → Nat) (yT_9_0 : Nat → ClassId) (hT_11 : Nat) (aT_11 : Nat → Nat) (yT_11 : Nat → ClassId) (aT_11_1 : Nat → Nat) (yT_11_1 : Nat → ClassId) (aT_11_2 : Nat → Nat) (yT_11_2 : Nat → ClassId) (aT_11_3 : Nat → Nat) (yT_11_3 : Nat → ClassId) (fn : Gs → Gs → Gs → Gs → Gs → Gs → Gs → Gs → Gs → Gs → Gs → Gs → Gs → Option (Int32 × Gs × Gs × Gs × Gs × Gs × Gs × Gs × Gs × Gs)) : Prop :=
  ∀ {p : Program} {e : Env} {s : State} {m : MethodId} {args : Array Value} {below : List Frame} {meth : Method} {c : Code} {H : Heap} {locs : List Loc} {A : Nat → Prop} {ls : Array Slot} {R : Room} {cells slots : Nat} {gT : Gs} {gT_0 : Gs} {gT_2 : Gs} {gT_3 : Gs} {gT_5 : Gs} {gT_8 : Gs} {gT_8_0 : Gs} {gT_9 : Gs} {gT_9_0 : Gs} {gT_11 : Gs} {gT_11_1 : Gs} {gT_11_2 : Gs} {gT_11_3 : Gs} {q : Int32 × Gs × Gs × Gs × Gs × Gs × Gs × Gs × Gs × Gs}, (10 ≤ R.frames ∧ 253 ≤ R.locals) → (cells ≤ R.cells ∧ slots ≤ R.slots) → Cx p s m args meth c cX11_plan (some .int) 3 RX11 lw_all → Hx D (tX11 yT ++ (tTP yT_0 ++ (tX6 yT_2 ++ (tX9 yT_3 ++ (tX1 yT_5 ++ (tX4 yT_8 ++ (tX0 yT_8_0 ++ (tX4 yT_9 ++ (tX0 yT_9_0 ++ (tX5 yT_11 ++ (tX7 yT_11_1 ++ (tX2 yT_11_2 ++ (tX8 yT_11_3))))))))))))) A s H locs (wX11 hT aT yT gT ++ (wTP (aT 0) aT_0 yT_0 gT_0 ++ (wX6 (aT 2) aT_2 yT_2 gT_2 ++ (wX9 (aT 3) aT_3 yT_3 gT_3 ++ (wX1 (aT 5) (va_up (va_up aT_5 0 (aT 2)) 1 (aT 3)) yT_5 gT_5 ++ (wX4 hT_8 aT_8 yT_8 gT_8 ++ (wX0 (aT_8 0) aT_8_0 yT_8_0 gT_8_0 ++ (wX4 hT_9 aT_9 yT_9 gT_9 ++ (wX0 (aT_9 0) aT_9_0 yT_9_0 gT_9_0 ++ (wX5 hT_11 (va_up aT_11 0 (aT 0)) yT_11 gT_11 ++ (wX7 ((va_up aT_11 0 (aT 0)) 1) (va_up (va_up aT_11_1 0 (aT 0)) 1 (aT 2)) yT_11_1 gT_11_1 ++ (wX2 ((va_up aT_11 0 (aT 0)) 2) (va_up aT_11_2 0 (aT 0)) yT_11_2 gT_11_2 ++ (wX8 ((va_up aT_11 0 (aT 0)) 3) aT_11_3 yT_11_3 gT_11_3))))))))))))) → lv_has ls 3 [(0, .ref hT), (1, .ref hT_11)] → fn gT gT_0 gT_2 gT_3 gT_5 gT_8 gT_8_0 gT_9 gT_9_0 gT_11 gT_11_1 gT_11_2 gT_11_3 = some q → W p l e R s m args below meth c H locs cells slots (MQ below (QI D A (wX11 hT aT yT q.2.1 ++ (wTP (aT 0) aT_0 yT_0 gT_0 ++ (wX6 (aT 2) aT_2 yT_2 gT_2 ++ (wX9 (aT 3) aT_3 yT_3 q.2.2.1 ++ (wX1 (aT 5) (va_up (va_up aT_5 0 (aT 2)) 1 (aT 3)) yT_5 q.2.2.2.1 ++ (wX4 hT_8 aT_8 yT_8 gT_8 ++ (wX0 (aT_8 0) aT_8_0 yT_8_0 gT_8_0 ++ (wX4 hT_9 aT_9 yT_9 q.2.2.2.2.1 ++ (wX0 (aT_9 0) aT_9_0 yT_9_0 q.2.2.2.2.2.1 ++ (wX5 hT_11 (va_up aT_11 0 (aT 0)) yT_11 q.2.2.2.2.2.2.1 ++ (wX7 ((va_up aT_11 0 (aT 0)) 1) (va_up (va_up aT_11_1 0 (aT 0)) 1 (aT 2)) yT_11_1 q.2.2.2.2.2.2.2.1 ++ (wX2 ((va_up aT_11 0 (aT 0)) 2) (va_up aT_11_2 0 (aT 0)) yT_11_2 q.2.2.2.2.2.2.2.2.1 ++ (wX8 ((va_up aT_11 0 (aT 0)) 3) aT_11_3 yT_11_3 q.2.2.2.2.2.2.2.2.2))))))))))))) q.1) args s cells slots A) (F0 m 26 ls [.ref hT_9])
def S_X11_plan_4 (l : Launch) (D : Dx) (hT : Nat) (aT : Nat → Nat) (yT : Nat → ClassId) (aT_0 : Nat → Nat) (yT_0 : Nat → ClassId) (aT_2 : Nat → Nat) (yT_2 : Nat → ClassId) (aT_3 : Nat → Nat) (yT_3 : Nat → ClassId) (aT_5 : Nat → Nat) (yT_5 : Nat → ClassId) (hT_8 : Nat) (aT_8 : Nat → Nat) (yT_8 : Nat → ClassId) (aT_8_0 : Nat → Nat) (yT_8_0 : Nat → ClassId) (hT_9 : Nat) (aT_9 : Nat → Nat) (yT_9 : Nat → ClassId) (aT_9_0 : Nat → Nat) (yT_9_0 : Nat → ClassId) (hT_11 : Nat) (aT_11 : Nat → Nat) (yT_11 : Nat → ClassId) (aT_11_1 : Nat → Nat) (yT_11_1 : Nat → ClassId) (aT_11_2 : Nat → Nat) (yT_11_2 : Nat → ClassId) (aT_11_3 : Nat → Nat) (yT_11_3 : Nat → ClassId) (fn : Gs → Gs → Gs → Gs → Gs → Gs → Gs → Gs → Gs → Gs → Gs → Gs → Gs → Option (Int32 × Gs × Gs × Gs × Gs × Gs × Gs × Gs × Gs × Gs)) : Prop :=
  ∀ {p : Program} {e : Env} {s : State} {m : MethodId} {args : Array Value} {below : List Frame} {meth : Method} {c : Code} {H : Heap} {locs : List Loc} {A : Nat → Prop} {ls : Array Slot} {R : Room} {cells slots : Nat} {gT : Gs} {gT_0 : Gs} {gT_2 : Gs} {gT_3 : Gs} {gT_5 : Gs} {gT_8 : Gs} {gT_8_0 : Gs} {gT_9 : Gs} {gT_9_0 : Gs} {gT_11 : Gs} {gT_11_1 : Gs} {gT_11_2 : Gs} {gT_11_3 : Gs} {q : Int32 × Gs × Gs × Gs × Gs × Gs × Gs × Gs × Gs × Gs}, (10 ≤ R.frames ∧ 253 ≤ R.locals) → (cells ≤ R.cells ∧ slots ≤ R.slots) → Cx p s m args meth c cX11_plan (some .int) 3 RX11 lw_all → Hx D (tX11 yT ++ (tTP yT_0 ++ (tX6 yT_2 ++ (tX9 yT_3 ++ (tX1 yT_5 ++ (tX4 yT_8 ++ (tX0 yT_8_0 ++ (tX4 yT_9 ++ (tX0 yT_9_0 ++ (tX5 yT_11 ++ (tX7 yT_11_1 ++ (tX2 yT_11_2 ++ (tX8 yT_11_3))))))))))))) A s H locs (wX11 hT aT yT gT ++ (wTP (aT 0) aT_0 yT_0 gT_0 ++ (wX6 (aT 2) aT_2 yT_2 gT_2 ++ (wX9 (aT 3) aT_3 yT_3 gT_3 ++ (wX1 (aT 5) (va_up (va_up aT_5 0 (aT 2)) 1 (aT 3)) yT_5 gT_5 ++ (wX4 hT_8 aT_8 yT_8 gT_8 ++ (wX0 (aT_8 0) aT_8_0 yT_8_0 gT_8_0 ++ (wX4 hT_9 aT_9 yT_9 gT_9 ++ (wX0 (aT_9 0) aT_9_0 yT_9_0 gT_9_0 ++ (wX5 hT_11 (va_up aT_11 0 (aT 0)) yT_11 gT_11 ++ (wX7 ((va_up aT_11 0 (aT 0)) 1) (va_up (va_up aT_11_1 0 (aT 0)) 1 (aT 2)) yT_11_1 gT_11_1 ++ (wX2 ((va_up aT_11 0 (aT 0)) 2) (va_up aT_11_2 0 (aT 0)) yT_11_2 gT_11_2 ++ (wX8 ((va_up aT_11 0 (aT 0)) 3) aT_11_3 yT_11_3 gT_11_3))))))))))))) → lv_has ls 3 [(0, .ref hT)] → fn gT gT_0 gT_2 gT_3 gT_5 gT_8 gT_8_0 gT_9 gT_9_0 gT_11 gT_11_1 gT_11_2 gT_11_3 = some q → W p l e R s m args below meth c H locs cells slots (MQ below (QI D A (wX11 hT aT yT q.2.1 ++ (wTP (aT 0) aT_0 yT_0 gT_0 ++ (wX6 (aT 2) aT_2 yT_2 gT_2 ++ (wX9 (aT 3) aT_3 yT_3 q.2.2.1 ++ (wX1 (aT 5) (va_up (va_up aT_5 0 (aT 2)) 1 (aT 3)) yT_5 q.2.2.2.1 ++ (wX4 hT_8 aT_8 yT_8 gT_8 ++ (wX0 (aT_8 0) aT_8_0 yT_8_0 gT_8_0 ++ (wX4 hT_9 aT_9 yT_9 q.2.2.2.2.1 ++ (wX0 (aT_9 0) aT_9_0 yT_9_0 q.2.2.2.2.2.1 ++ (wX5 hT_11 (va_up aT_11 0 (aT 0)) yT_11 q.2.2.2.2.2.2.1 ++ (wX7 ((va_up aT_11 0 (aT 0)) 1) (va_up (va_up aT_11_1 0 (aT 0)) 1 (aT 2)) yT_11_1 q.2.2.2.2.2.2.2.1 ++ (wX2 ((va_up aT_11 0 (aT 0)) 2) (va_up aT_11_2 0 (aT 0)) yT_11_2 q.2.2.2.2.2.2.2.2.1 ++ (wX8 ((va_up aT_11 0 (aT 0)) 3) aT_11_3 yT_11_3 q.2.2.2.2.2.2.2.2.2))))))))))))) q.1) args s cells slots A) (F0 m 4 ls [.ref hT_11])
set_option maxHeartbeats 4000000 in
set_option maxRecDepth 100000 in
theorem k_X11_plan_26 (l : Launch) (D : Dx) (hT : Nat) (aT : Nat → Nat) (yT : Nat → ClassId) (aT_0 : Nat → Nat) (yT_0 : Nat → ClassId) (aT_2 : Nat → Nat) (yT_2 : Nat → ClassId) (aT_3 : Nat → Nat) (yT_3 : Nat → ClassId) (aT_5 : Nat → Nat) (yT_5 : Nat → ClassId) (hT_8 : Nat) (aT_8 : Nat → Nat) (yT_8 : Nat → ClassId) (aT_8_0 : Nat → Nat) (yT_8_0 : Nat → ClassId) (hT_9 : Nat) (aT_9 : Nat → Nat) (yT_9 : Nat → ClassId) (aT_9_0 : Nat → Nat) (yT_9_0 : Nat → ClassId) (hT_11 : Nat) (aT_11 : Nat → Nat) (yT_11 : Nat → ClassId) (aT_11_1 : Nat → Nat) (yT_11_1 : Nat → ClassId) (aT_11_2 : Nat → Nat) (yT_11_2 : Nat → ClassId) (aT_11_3 : Nat → Nat) (yT_11_3 : Nat → ClassId) (n : Nat) : S_X11_plan_26 l D hT aT yT aT_0 yT_0 aT_2 yT_2 aT_3 yT_3 aT_5 yT_5 hT_8 aT_8 yT_8 aT_8_0 yT_8_0 hT_9 aT_9 yT_9 aT_9_0 yT_9_0 hT_11 aT_11 yT_11 aT_11_1 yT_11_1 aT_11_2 yT_11_2 aT_11_3 yT_11_3 (b_X11_plan_26 n hT_8 hT_9 aT_9 hT_11) := by
  intro p e s m args below meth c H locs A ls R cells slots gT gT_0 gT_2 gT_3 gT_5 gT_8 gT_8_0 gT_9 gT_9_0 gT_11 gT_11_1 gT_11_2 gT_11_3 q hR hcs C X hl hF
  obtain ⟨hx, hb, hr, hml, hown, hts, hlk⟩ := id C
  unfold b_X11_plan_26 at hF
  refine lv_astore_n (lv' := [(2, .ref hT_9), (0, .ref hT), (1, .ref hT_11)]) hx hb dX11_plan_26 rfl hl (by decide) rfl (fun ls hl => ?_)
  refine lv_aload_n hx hb dX11_plan_27 rfl (lv_at hl 1 rfl) ?_
  refine lv_aload_n hx hb dX11_plan_28 rfl (lv_at hl 0 rfl) ?_
  refine va_put (D := D.1) (ci := 11) (v := .ref hT_9) (ty := tyX11 9) (C := RX11) (T := TX11) (N := 14) hx hb hts wi_X11 tyX11 tyX11_ok nmX11 hown X.1 X.2.1 X.2.2.1 X.2.2.2.1 0 rfl rfl 9 (by decide) (hts _ q2_156) (fun _ h9 => h9) rfl (by decide +kernel) rfl rfl (by rw [List.length_map, List.length_range]; decide) dX11_plan_29 (fun H locs hP hD hS => ?_)
  have X : Hx D (tX11 yT ++ (tTP yT_0 ++ (tX6 yT_2 ++ (tX9 yT_3 ++ (tX1 yT_5 ++ (tX4 yT_8 ++ (tX0 yT_8_0 ++ (tX4 yT_9 ++ (tX0 yT_9_0 ++ (tX5 yT_11 ++ (tX7 yT_11_1 ++ (tX2 yT_11_2 ++ (tX8 yT_11_3))))))))))))) A s H locs (wX11 hT aT yT (sR gT 9 (some hT_9)) ++ (wTP (aT 0) aT_0 yT_0 gT_0 ++ (wX6 (aT 2) aT_2 yT_2 gT_2 ++ (wX9 (aT 3) aT_3 yT_3 gT_3 ++ (wX1 (aT 5) (va_up (va_up aT_5 0 (aT 2)) 1 (aT 3)) yT_5 gT_5 ++ (wX4 hT_8 aT_8 yT_8 gT_8 ++ (wX0 (aT_8 0) aT_8_0 yT_8_0 gT_8_0 ++ (wX4 hT_9 aT_9 yT_9 gT_9 ++ (wX0 (aT_9 0) aT_9_0 yT_9_0 gT_9_0 ++ (wX5 hT_11 (va_up aT_11 0 (aT 0)) yT_11 gT_11 ++ (wX7 ((va_up aT_11 0 (aT 0)) 1) (va_up (va_up aT_11_1 0 (aT 0)) 1 (aT 2)) yT_11_1 gT_11_1 ++ (wX2 ((va_up aT_11 0 (aT 0)) 2) (va_up aT_11_2 0 (aT 0)) yT_11_2 gT_11_2 ++ (wX8 ((va_up aT_11 0 (aT 0)) 3) aT_11_3 yT_11_3 gT_11_3))))))))))))) := Hx_set X (set_l (by rw [wG_len (m := 1) rfl]; decide) (wG_sR (k := 9) (v := some hT_9) rfl)) hP hD hS
  refine lv_aload_n hx hb dX11_plan_32 rfl (lv_at hl 1 rfl) ?_
  refine lv_aload_n hx hb dX11_plan_33 rfl (lv_at hl 2 rfl) ?_
  refine lv_aload_n hx hb dX11_plan_34 rfl (lv_at hl 1 rfl) ?_
  refine va_get (D := D.1) (ci := 11) (v := .int (gI gT 1)) (C := RX11) (T := TX11) (N := 14) hx hb hts wi_X11 hown X.1 X.2.1 0 rfl rfl 1 (by decide) (hts _ q2_148) (fun _ h9 => h9) (fl_get (by decide)) dX11_plan_35 ?_
  refine lv_aload_n hx hb dX11_plan_38 rfl (lv_at hl 0 rfl) ?_
  obtain ⟨q_5, hc_6, hF⟩ := bnd_some hF
  refine cV_i (As := [.int (gI gT 1), .ref hT_9]) (rest := [.ref hT]) C X (c_X5_readPlan l D hT_11 (va_up aT_11 0 (aT 0)) yT_11 aT_0 yT_0 (va_up (va_up aT_11_1 0 (aT 0)) 1 (aT 2)) yT_11_1 aT_2 yT_2 (va_up aT_11_2 0 (aT 0)) yT_11_2 aT_11_3 yT_11_3 hT_9 aT_9 yT_9 aT_9_0 yT_9_0 n gT_11 gT_0 gT_11_1 gT_2 gT_11_2 gT_11_3 gT_9 gT_9_0 (gI gT 1) q_5 hc_6 _) (cwV 2 hts (good_V q3_107 q3_108 q3_109 q1_10 q3_110) rfl rfl rfl (by decide +kernel) ⟨Nat.le_trans (Nat.le_of_ble_eq_true rfl) hR.1, Nat.le_trans (Nat.le_of_ble_eq_true rfl) hR.2⟩) (va_recv X.1 X.2.1 (ci := 5) (q0 := 74) rfl rfl) (X.1.sub (tys' := tX5 yT_11 ++ (tTP yT_0 ++ (tX7 yT_11_1 ++ (tX6 yT_2 ++ (tX2 yT_11_2 ++ (tX8 yT_11_3 ++ (tX4 yT_9 ++ (tX0 yT_9_0)))))))) [66, 67, 68, 69, 0, 1, 70, 41, 42, 43, 44, 45, 46, 47, 48, 49, 50, 51, 52, 53, 54, 55, 56, 57, 58, 59, 60, 61, 62, 63, 64, 65] rfl) (X.2.1.sub (ws' := wX5 hT_11 (va_up aT_11 0 (aT 0)) yT_11 gT_11 ++ (wTP (aT 0) aT_0 yT_0 gT_0 ++ (wX7 ((va_up aT_11 0 (aT 0)) 1) (va_up (va_up aT_11_1 0 (aT 0)) 1 (aT 2)) yT_11_1 gT_11_1 ++ (wX6 (aT 2) aT_2 yT_2 gT_2 ++ (wX2 ((va_up aT_11 0 (aT 0)) 2) (va_up aT_11_2 0 (aT 0)) yT_11_2 gT_11_2 ++ (wX8 ((va_up aT_11 0 (aT 0)) 3) aT_11_3 yT_11_3 gT_11_3 ++ (wX4 hT_9 aT_9 yT_9 gT_9 ++ (wX0 (aT_9 0) aT_9_0 yT_9_0 gT_9_0)))))))) [74, 75, 76, 77, 78, 1, 79, 2, 3, 80, 81, 82, 47, 48, 49, 50, 51, 52, 53, 54, 55, 56, 57, 58, 59, 60, 61, 62, 63, 64, 65, 66, 67, 68, 69, 70, 71, 72, 73] rfl) (X.2.2.1.sub (ws' := wX5 hT_11 (va_up aT_11 0 (aT 0)) yT_11 gT_11 ++ (wTP (aT 0) aT_0 yT_0 gT_0 ++ (wX7 ((va_up aT_11 0 (aT 0)) 1) (va_up (va_up aT_11_1 0 (aT 0)) 1 (aT 2)) yT_11_1 gT_11_1 ++ (wX6 (aT 2) aT_2 yT_2 gT_2 ++ (wX2 ((va_up aT_11 0 (aT 0)) 2) (va_up aT_11_2 0 (aT 0)) yT_11_2 gT_11_2 ++ (wX8 ((va_up aT_11 0 (aT 0)) 3) aT_11_3 yT_11_3 gT_11_3 ++ (wX4 hT_9 aT_9 yT_9 gT_9 ++ (wX0 (aT_9 0) aT_9_0 yT_9_0 gT_9_0)))))))) [74, 75, 76, 77, 78, 1, 79, 2, 3, 80, 81, 82, 47, 48, 49, 50, 51, 52, 53, 54, 55, 56, 57, 58, 59, 60, 61, 62, 63, 64, 65, 66, 67, 68, 69, 70, 71, 72, 73] (by decide) rfl) (free_of (wC := wX5 hT_11 (va_up aT_11 0 (aT 0)) yT_11 gT_11 ++ (wTP (aT 0) aT_0 yT_0 gT_0 ++ (wX7 ((va_up aT_11 0 (aT 0)) 1) (va_up (va_up aT_11_1 0 (aT 0)) 1 (aT 2)) yT_11_1 gT_11_1 ++ (wX6 (aT 2) aT_2 yT_2 gT_2 ++ (wX2 ((va_up aT_11 0 (aT 0)) 2) (va_up aT_11_2 0 (aT 0)) yT_11_2 gT_11_2 ++ (wX8 ((va_up aT_11 0 (aT 0)) 3) aT_11_3 yT_11_3 gT_11_3 ++ (wX4 hT_9 aT_9 yT_9 gT_9 ++ (wX0 (aT_9 0) aT_9_0 yT_9_0 gT_9_0)))))))) (isC := [74, 75, 76, 77, 78, 1, 79, 2, 3, 80, 81, 82, 47, 48, 49, 50, 51, 52, 53, 54, 55, 56, 57, 58, 59, 60, 61, 62, 63, 64, 65, 66, 67, 68, 69, 70, 71, 72, 73]) X rfl) hl.1 rfl rfl (Nat.le_of_ble_eq_true rfl) dX11_plan_39 hcs (fun t H1 locs1 ht hB hk hS => ?_)
  have X : Hx D (tX11 yT ++ (tTP yT_0 ++ (tX6 yT_2 ++ (tX9 yT_3 ++ (tX1 yT_5 ++ (tX4 yT_8 ++ (tX0 yT_8_0 ++ (tX4 yT_9 ++ (tX0 yT_9_0 ++ (tX5 yT_11 ++ (tX7 yT_11_1 ++ (tX2 yT_11_2 ++ (tX8 yT_11_3))))))))))))) A s H1 locs1 (wX11 hT aT yT (sR gT 9 (some hT_9)) ++ (wTP (aT 0) aT_0 yT_0 gT_0 ++ (wX6 (aT 2) aT_2 yT_2 gT_2 ++ (wX9 (aT 3) aT_3 yT_3 gT_3 ++ (wX1 (aT 5) (va_up (va_up aT_5 0 (aT 2)) 1 (aT 3)) yT_5 gT_5 ++ (wX4 hT_8 aT_8 yT_8 gT_8 ++ (wX0 (aT_8 0) aT_8_0 yT_8_0 gT_8_0 ++ (wX4 hT_9 aT_9 yT_9 q_5.2.2.2.2.2.1 ++ (wX0 (aT_9 0) aT_9_0 yT_9_0 q_5.2.2.2.2.2.2 ++ (wX5 hT_11 (va_up aT_11 0 (aT 0)) yT_11 q_5.2.1 ++ (wX7 ((va_up aT_11 0 (aT 0)) 1) (va_up (va_up aT_11_1 0 (aT 0)) 1 (aT 2)) yT_11_1 q_5.2.2.1 ++ (wX2 ((va_up aT_11 0 (aT 0)) 2) (va_up aT_11_2 0 (aT 0)) yT_11_2 q_5.2.2.2.1 ++ (wX8 ((va_up aT_11 0 (aT 0)) 3) aT_11_3 yT_11_3 q_5.2.2.2.2.1))))))))))))) := Hx_after (isC := [74, 75, 76, 77, 78, 1, 79, 2, 3, 80, 81, 82, 47, 48, 49, 50, 51, 52, 53, 54, 55, 56, 57, 58, 59, 60, 61, 62, 63, 64, 65, 66, 67, 68, 69, 70, 71, 72, 73]) (isR := [0, 4, 5, 6, 7, 8, 9, 10, 11, 12, 13, 14, 15, 16, 17, 18, 19, 20, 21, 22, 23, 24, 25, 26, 27, 28, 29, 30, 31, 32, 33, 34, 35, 36, 37, 38, 39, 40, 41, 42, 43, 44, 45, 46]) (pm := [0, 49, 51, 52, 1, 2, 3, 4, 5, 6, 7, 8, 9, 10, 11, 12, 13, 14, 15, 16, 17, 18, 19, 20, 21, 22, 23, 24, 25, 26, 27, 28, 29, 30, 31, 32, 33, 34, 35, 36, 37, 38, 39, 40, 41, 42, 43, 56, 57, 58, 59, 60, 61, 62, 63, 64, 65, 66, 67, 68, 69, 70, 71, 72, 73, 74, 75, 76, 77, 78, 79, 80, 81, 82, 44, 45, 46, 47, 48, 50, 53, 54, 55]) (wr := wX11 hT aT yT (sR gT 9 (some hT_9)) ++ (wX9 (aT 3) aT_3 yT_3 gT_3 ++ (wX1 (aT 5) (va_up (va_up aT_5 0 (aT 2)) 1 (aT 3)) yT_5 gT_5 ++ (wX4 hT_8 aT_8 yT_8 gT_8 ++ (wX0 (aT_8 0) aT_8_0 yT_8_0 gT_8_0))))) X ⟨rfl, rfl, by decide, by decide, rfl, by decide⟩ ht hB hk hS
  clear hk hS ht hB
  generalize H1 = H at X ⊢
  generalize locs1 = locs at X ⊢
  refine va_put (D := D.1) (ci := 11) (v := .int q_5.1) (ty := .int) (C := RX11) (T := TX11) (N := 14) hx hb hts wi_X11 tyX11 tyX11_ok nmX11 hown X.1 X.2.1 X.2.2.1 X.2.2.2.1 0 rfl rfl 12 (by decide) (hts _ q2_159) (fun _ h9 => h9) rfl (by decide +kernel) rfl rfl (by rw [List.length_map, List.length_range]; decide) dX11_plan_42 (fun H locs hP hD hS => ?_)
  have X : Hx D (tX11 yT ++ (tTP yT_0 ++ (tX6 yT_2 ++ (tX9 yT_3 ++ (tX1 yT_5 ++ (tX4 yT_8 ++ (tX0 yT_8_0 ++ (tX4 yT_9 ++ (tX0 yT_9_0 ++ (tX5 yT_11 ++ (tX7 yT_11_1 ++ (tX2 yT_11_2 ++ (tX8 yT_11_3))))))))))))) A s H locs (wX11 hT aT yT (sI (sR gT 9 (some hT_9)) 12 q_5.1) ++ (wTP (aT 0) aT_0 yT_0 gT_0 ++ (wX6 (aT 2) aT_2 yT_2 gT_2 ++ (wX9 (aT 3) aT_3 yT_3 gT_3 ++ (wX1 (aT 5) (va_up (va_up aT_5 0 (aT 2)) 1 (aT 3)) yT_5 gT_5 ++ (wX4 hT_8 aT_8 yT_8 gT_8 ++ (wX0 (aT_8 0) aT_8_0 yT_8_0 gT_8_0 ++ (wX4 hT_9 aT_9 yT_9 q_5.2.2.2.2.2.1 ++ (wX0 (aT_9 0) aT_9_0 yT_9_0 q_5.2.2.2.2.2.2 ++ (wX5 hT_11 (va_up aT_11 0 (aT 0)) yT_11 q_5.2.1 ++ (wX7 ((va_up aT_11 0 (aT 0)) 1) (va_up (va_up aT_11_1 0 (aT 0)) 1 (aT 2)) yT_11_1 q_5.2.2.1 ++ (wX2 ((va_up aT_11 0 (aT 0)) 2) (va_up aT_11_2 0 (aT 0)) yT_11_2 q_5.2.2.2.1 ++ (wX8 ((va_up aT_11 0 (aT 0)) 3) aT_11_3 yT_11_3 q_5.2.2.2.2.1))))))))))))) := Hx_set X (set_l (by rw [wG_len (m := 1) rfl]; decide) (wG_sI (k := 12) rfl)) hP hD hS
  refine lv_aload_n hx hb dX11_plan_45 rfl (lv_at hl 1 rfl) ?_
  refine lv_iconst (v := (0 : Int32)) hx hb dX11_plan_46 (by decide) ?_
  refine va_put (D := D.1) (ci := 11) (v := .int (0 : Int32)) (ty := .int) (C := RX11) (T := TX11) (N := 14) hx hb hts wi_X11 tyX11 tyX11_ok nmX11 hown X.1 X.2.1 X.2.2.1 X.2.2.2.1 0 rfl rfl 1 (by decide) (hts _ q2_148) (fun _ h9 => h9) rfl (by decide +kernel) rfl rfl (by rw [List.length_map, List.length_range]; decide) dX11_plan_47 (fun H locs hP hD hS => ?_)
  have X : Hx D (tX11 yT ++ (tTP yT_0 ++ (tX6 yT_2 ++ (tX9 yT_3 ++ (tX1 yT_5 ++ (tX4 yT_8 ++ (tX0 yT_8_0 ++ (tX4 yT_9 ++ (tX0 yT_9_0 ++ (tX5 yT_11 ++ (tX7 yT_11_1 ++ (tX2 yT_11_2 ++ (tX8 yT_11_3))))))))))))) A s H locs (wX11 hT aT yT (sI (sI (sR gT 9 (some hT_9)) 12 q_5.1) 1 (0 : Int32)) ++ (wTP (aT 0) aT_0 yT_0 gT_0 ++ (wX6 (aT 2) aT_2 yT_2 gT_2 ++ (wX9 (aT 3) aT_3 yT_3 gT_3 ++ (wX1 (aT 5) (va_up (va_up aT_5 0 (aT 2)) 1 (aT 3)) yT_5 gT_5 ++ (wX4 hT_8 aT_8 yT_8 gT_8 ++ (wX0 (aT_8 0) aT_8_0 yT_8_0 gT_8_0 ++ (wX4 hT_9 aT_9 yT_9 q_5.2.2.2.2.2.1 ++ (wX0 (aT_9 0) aT_9_0 yT_9_0 q_5.2.2.2.2.2.2 ++ (wX5 hT_11 (va_up aT_11 0 (aT 0)) yT_11 q_5.2.1 ++ (wX7 ((va_up aT_11 0 (aT 0)) 1) (va_up (va_up aT_11_1 0 (aT 0)) 1 (aT 2)) yT_11_1 q_5.2.2.1 ++ (wX2 ((va_up aT_11 0 (aT 0)) 2) (va_up aT_11_2 0 (aT 0)) yT_11_2 q_5.2.2.2.1 ++ (wX8 ((va_up aT_11 0 (aT 0)) 3) aT_11_3 yT_11_3 q_5.2.2.2.2.1))))))))))))) := Hx_set X (set_l (by rw [wG_len (m := 1) rfl]; decide) (wG_sI (k := 1) rfl)) hP hD hS
  refine lv_aload_n hx hb dX11_plan_50 rfl (lv_at hl 1 rfl) ?_
  refine va_get (D := D.1) (ci := 11) (v := .int q_5.1) (C := RX11) (T := TX11) (N := 14) hx hb hts wi_X11 hown X.1 X.2.1 0 rfl rfl 12 (by decide) (hts _ q2_159) (fun _ h9 => h9) (fl_get (by decide)) dX11_plan_51 ?_
  refine lv_if_eq (tgt := 64) hx hb dX11_plan_54 (by decide) (fun c => ?_) (fun c => ?_)
  · replace hF := iT c hF
    refine lv_aload_n hx hb dX11_plan_64 rfl (lv_at hl 1 rfl) ?_
    refine lv_aload_n hx hb dX11_plan_65 rfl (lv_at hl 1 rfl) ?_
    obtain ⟨h_7, hF⟩ := grd_some hF
    refine va_get (D := D.1) (ci := 11) (v := .ref hT_8) (C := RX11) (T := TX11) (N := 14) hx hb hts wi_X11 hown X.1 X.2.1 0 rfl rfl 8 (by decide) (hts _ q2_155) (fun _ h9 => h9) ((fl_get (by decide)).trans (rf_eq h_7)) dX11_plan_66 ?_
    refine va_put (D := D.1) (ci := 11) (v := .ref hT_8) (ty := tyX11 9) (C := RX11) (T := TX11) (N := 14) hx hb hts wi_X11 tyX11 tyX11_ok nmX11 hown X.1 X.2.1 X.2.2.1 X.2.2.2.1 0 rfl rfl 9 (by decide) (hts _ q2_156) (fun _ h9 => h9) rfl (by decide +kernel) rfl rfl (by rw [List.length_map, List.length_range]; decide) dX11_plan_69 (fun H locs hP hD hS => ?_)
    have X : Hx D (tX11 yT ++ (tTP yT_0 ++ (tX6 yT_2 ++ (tX9 yT_3 ++ (tX1 yT_5 ++ (tX4 yT_8 ++ (tX0 yT_8_0 ++ (tX4 yT_9 ++ (tX0 yT_9_0 ++ (tX5 yT_11 ++ (tX7 yT_11_1 ++ (tX2 yT_11_2 ++ (tX8 yT_11_3))))))))))))) A s H locs (wX11 hT aT yT (sR (sI (sI (sR gT 9 (some hT_9)) 12 q_5.1) 1 (0 : Int32)) 9 (some hT_8)) ++ (wTP (aT 0) aT_0 yT_0 gT_0 ++ (wX6 (aT 2) aT_2 yT_2 gT_2 ++ (wX9 (aT 3) aT_3 yT_3 gT_3 ++ (wX1 (aT 5) (va_up (va_up aT_5 0 (aT 2)) 1 (aT 3)) yT_5 gT_5 ++ (wX4 hT_8 aT_8 yT_8 gT_8 ++ (wX0 (aT_8 0) aT_8_0 yT_8_0 gT_8_0 ++ (wX4 hT_9 aT_9 yT_9 q_5.2.2.2.2.2.1 ++ (wX0 (aT_9 0) aT_9_0 yT_9_0 q_5.2.2.2.2.2.2 ++ (wX5 hT_11 (va_up aT_11 0 (aT 0)) yT_11 q_5.2.1 ++ (wX7 ((va_up aT_11 0 (aT 0)) 1) (va_up (va_up aT_11_1 0 (aT 0)) 1 (aT 2)) yT_11_1 q_5.2.2.1 ++ (wX2 ((va_up aT_11 0 (aT 0)) 2) (va_up aT_11_2 0 (aT 0)) yT_11_2 q_5.2.2.2.1 ++ (wX8 ((va_up aT_11 0 (aT 0)) 3) aT_11_3 yT_11_3 q_5.2.2.2.2.1))))))))))))) := Hx_set X (set_l (by rw [wG_len (m := 1) rfl]; decide) (wG_sR (k := 9) (v := some hT_8) rfl)) hP hD hS
    refine lv_aload_n hx hb dX11_plan_72 rfl (lv_at hl 1 rfl) ?_
    refine lv_aload_n hx hb dX11_plan_73 rfl (lv_at hl 0 rfl) ?_
    refine va_put (D := D.1) (ci := 11) (v := .ref hT_9) (ty := tyX11 8) (C := RX11) (T := TX11) (N := 14) hx hb hts wi_X11 tyX11 tyX11_ok nmX11 hown X.1 X.2.1 X.2.2.1 X.2.2.2.1 0 rfl rfl 8 (by decide) (hts _ q2_155) (fun _ h9 => h9) rfl (by decide +kernel) rfl rfl (by rw [List.length_map, List.length_range]; decide) dX11_plan_74 (fun H locs hP hD hS => ?_)
    have X : Hx D (tX11 yT ++ (tTP yT_0 ++ (tX6 yT_2 ++ (tX9 yT_3 ++ (tX1 yT_5 ++ (tX4 yT_8 ++ (tX0 yT_8_0 ++ (tX4 yT_9 ++ (tX0 yT_9_0 ++ (tX5 yT_11 ++ (tX7 yT_11_1 ++ (tX2 yT_11_2 ++ (tX8 yT_11_3))))))))))))) A s H locs (wX11 hT aT yT (sR (sR (sI (sI (sR gT 9 (some hT_9)) 12 q_5.1) 1 (0 : Int32)) 9 (some hT_8)) 8 (some hT_9)) ++ (wTP (aT 0) aT_0 yT_0 gT_0 ++ (wX6 (aT 2) aT_2 yT_2 gT_2 ++ (wX9 (aT 3) aT_3 yT_3 gT_3 ++ (wX1 (aT 5) (va_up (va_up aT_5 0 (aT 2)) 1 (aT 3)) yT_5 gT_5 ++ (wX4 hT_8 aT_8 yT_8 gT_8 ++ (wX0 (aT_8 0) aT_8_0 yT_8_0 gT_8_0 ++ (wX4 hT_9 aT_9 yT_9 q_5.2.2.2.2.2.1 ++ (wX0 (aT_9 0) aT_9_0 yT_9_0 q_5.2.2.2.2.2.2 ++ (wX5 hT_11 (va_up aT_11 0 (aT 0)) yT_11 q_5.2.1 ++ (wX7 ((va_up aT_11 0 (aT 0)) 1) (va_up (va_up aT_11_1 0 (aT 0)) 1 (aT 2)) yT_11_1 q_5.2.2.1 ++ (wX2 ((va_up aT_11 0 (aT 0)) 2) (va_up aT_11_2 0 (aT 0)) yT_11_2 q_5.2.2.2.1 ++ (wX8 ((va_up aT_11 0 (aT 0)) 3) aT_11_3 yT_11_3 q_5.2.2.2.2.1))))))))))))) := Hx_set X (set_l (by rw [wG_len (m := 1) rfl]; decide) (wG_sR (k := 8) (v := some hT_9) rfl)) hP hD hS
    refine lv_aload_n hx hb dX11_plan_77 rfl (lv_at hl 1 rfl) ?_
    refine va_get (D := D.1) (ci := 11) (v := .ref (aT 3)) (C := RX11) (T := TX11) (N := 14) hx hb hts wi_X11 hown X.1 X.2.1 0 rfl rfl 3 (by decide) (hts _ q2_150) (fun _ h9 => h9) (fl_get (by decide)) dX11_plan_78 ?_
    obtain ⟨q_8, hc_9, hF⟩ := bnd_some hF
    refine cV_v (As := []) (rest := []) C X (c_X9_clear l D (aT 3) aT_3 yT_3 n gT_3 q_8 hc_9 _) (cwV 0 hts (good_V q5_15 q5_16 q5_17 q1_3 q5_18) rfl rfl rfl (by decide +kernel) ⟨Nat.le_trans (Nat.le_of_ble_eq_true rfl) hR.1, Nat.le_trans (Nat.le_of_ble_eq_true rfl) hR.2⟩) (va_recv X.1 X.2.1 (ci := 9) (q0 := 4) rfl rfl) (X.1.sub (tys' := tX9 yT_3) [2, 3, 4, 5, 6, 7, 8, 9, 10, 11, 12, 13] rfl) (X.2.1.sub (ws' := wX9 (aT 3) aT_3 yT_3 gT_3) [4, 5, 6, 7, 8, 9, 10, 11, 12, 13, 14, 15, 16] rfl) (X.2.2.1.sub (ws' := wX9 (aT 3) aT_3 yT_3 gT_3) [4, 5, 6, 7, 8, 9, 10, 11, 12, 13, 14, 15, 16] (by decide) rfl) (free_of (wC := wX9 (aT 3) aT_3 yT_3 gT_3) (isC := [4, 5, 6, 7, 8, 9, 10, 11, 12, 13, 14, 15, 16]) X rfl) hl.1 rfl rfl (Nat.le_of_ble_eq_true rfl) dX11_plan_81 hcs (fun t H1 locs1 ht hB hk hS => ?_)
    have X : Hx D (tX11 yT ++ (tTP yT_0 ++ (tX6 yT_2 ++ (tX9 yT_3 ++ (tX1 yT_5 ++ (tX4 yT_8 ++ (tX0 yT_8_0 ++ (tX4 yT_9 ++ (tX0 yT_9_0 ++ (tX5 yT_11 ++ (tX7 yT_11_1 ++ (tX2 yT_11_2 ++ (tX8 yT_11_3))))))))))))) A s H1 locs1 (wX11 hT aT yT (sR (sR (sI (sI (sR gT 9 (some hT_9)) 12 q_5.1) 1 (0 : Int32)) 9 (some hT_8)) 8 (some hT_9)) ++ (wTP (aT 0) aT_0 yT_0 gT_0 ++ (wX6 (aT 2) aT_2 yT_2 gT_2 ++ (wX9 (aT 3) aT_3 yT_3 q_8 ++ (wX1 (aT 5) (va_up (va_up aT_5 0 (aT 2)) 1 (aT 3)) yT_5 gT_5 ++ (wX4 hT_8 aT_8 yT_8 gT_8 ++ (wX0 (aT_8 0) aT_8_0 yT_8_0 gT_8_0 ++ (wX4 hT_9 aT_9 yT_9 q_5.2.2.2.2.2.1 ++ (wX0 (aT_9 0) aT_9_0 yT_9_0 q_5.2.2.2.2.2.2 ++ (wX5 hT_11 (va_up aT_11 0 (aT 0)) yT_11 q_5.2.1 ++ (wX7 ((va_up aT_11 0 (aT 0)) 1) (va_up (va_up aT_11_1 0 (aT 0)) 1 (aT 2)) yT_11_1 q_5.2.2.1 ++ (wX2 ((va_up aT_11 0 (aT 0)) 2) (va_up aT_11_2 0 (aT 0)) yT_11_2 q_5.2.2.2.1 ++ (wX8 ((va_up aT_11 0 (aT 0)) 3) aT_11_3 yT_11_3 q_5.2.2.2.2.1))))))))))))) := Hx_after (isC := [4, 5, 6, 7, 8, 9, 10, 11, 12, 13, 14, 15, 16]) (isR := [0, 1, 2, 3, 17, 18, 19, 20, 21, 22, 23, 24, 25, 26, 27, 28, 29, 30, 31, 32, 33, 34, 35, 36, 37, 38, 39, 40, 41, 42, 43, 44, 45, 46, 47, 48, 49, 50, 51, 52, 53, 54, 55, 56, 57, 58, 59, 60, 61, 62, 63, 64, 65, 66, 67, 68, 69, 70, 71, 72, 73, 74, 75, 76, 77, 78, 79, 80, 81, 82]) (pm := [0, 1, 2, 3, 70, 71, 72, 73, 74, 75, 76, 77, 78, 79, 80, 81, 82, 4, 5, 6, 7, 8, 9, 10, 11, 12, 13, 14, 15, 16, 17, 18, 19, 20, 21, 22, 23, 24, 25, 26, 27, 28, 29, 30, 31, 32, 33, 34, 35, 36, 37, 38, 39, 40, 41, 42, 43, 44, 45, 46, 47, 48, 49, 50, 51, 52, 53, 54, 55, 56, 57, 58, 59, 60, 61, 62, 63, 64, 65, 66, 67, 68, 69]) (wr := wX11 hT aT yT (sR (sR (sI (sI (sR gT 9 (some hT_9)) 12 q_5.1) 1 (0 : Int32)) 9 (some hT_8)) 8 (some hT_9)) ++ (wTP (aT 0) aT_0 yT_0 gT_0 ++ (wX6 (aT 2) aT_2 yT_2 gT_2 ++ (wX1 (aT 5) (va_up (va_up aT_5 0 (aT 2)) 1 (aT 3)) yT_5 gT_5 ++ (wX4 hT_8 aT_8 yT_8 gT_8 ++ (wX0 (aT_8 0) aT_8_0 yT_8_0 gT_8_0 ++ (wX4 hT_9 aT_9 yT_9 q_5.2.2.2.2.2.1 ++ (wX0 (aT_9 0) aT_9_0 yT_9_0 q_5.2.2.2.2.2.2 ++ (wX5 hT_11 (va_up aT_11 0 (aT 0)) yT_11 q_5.2.1 ++ (wX7 ((va_up aT_11 0 (aT 0)) 1) (va_up (va_up aT_11_1 0 (aT 0)) 1 (aT 2)) yT_11_1 q_5.2.2.1 ++ (wX2 ((va_up aT_11 0 (aT 0)) 2) (va_up aT_11_2 0 (aT 0)) yT_11_2 q_5.2.2.2.1 ++ (wX8 ((va_up aT_11 0 (aT 0)) 3) aT_11_3 yT_11_3 q_5.2.2.2.2.1)))))))))))) X ⟨rfl, rfl, by decide, by decide, rfl, by decide⟩ ht hB hk hS
    clear hk hS ht hB
    generalize H1 = H at X ⊢
    generalize locs1 = locs at X ⊢
    refine lv_aload_n hx hb dX11_plan_84 rfl (lv_at hl 1 rfl) ?_
    refine va_get (D := D.1) (ci := 11) (v := .ref (aT 3)) (C := RX11) (T := TX11) (N := 14) hx hb hts wi_X11 hown X.1 X.2.1 0 rfl rfl 3 (by decide) (hts _ q2_150) (fun _ h9 => h9) (fl_get (by decide)) dX11_plan_85 ?_
    refine lv_dup hx hb dX11_plan_88 rfl ?_
    refine va_getN (D := D.1) (ci := 9) (v := .int (gI q_8 16)) (C := RX9) (T := TX9) (N := 17) hx hb hts wi_X9 hown X.1 X.2.1 4 rfl rfl 16 (by decide) (X.2.2.2.2.2.1.use q1_92 rfl) (fun _ h9 => h9) (fl_get (by decide)) dX11_plan_89 ?_
    refine lv_iconst (v := (1 : Int32)) hx hb dX11_plan_92 (by decide) ?_
    refine lv_iadd hx hb dX11_plan_93 ?_
    refine va_putN (D := D.1) (ci := 9) (v := .int ((gI q_8 16) + (1 : Int32))) (ty := .int) (C := RX9) (T := TX9) (N := 17) hx hb hts wi_X9 tyX9 tyX9_ok nmX9 hown X.1 X.2.1 X.2.2.1 X.2.2.2.1 4 rfl rfl 16 (by decide) (X.2.2.2.2.2.1.use q1_92 rfl) (fun _ h9 => h9) rfl (by decide +kernel) rfl rfl (by rw [List.length_map, List.length_range]; decide) dX11_plan_94 (fun H locs hP hD hS => ?_)
    have X : Hx D (tX11 yT ++ (tTP yT_0 ++ (tX6 yT_2 ++ (tX9 yT_3 ++ (tX1 yT_5 ++ (tX4 yT_8 ++ (tX0 yT_8_0 ++ (tX4 yT_9 ++ (tX0 yT_9_0 ++ (tX5 yT_11 ++ (tX7 yT_11_1 ++ (tX2 yT_11_2 ++ (tX8 yT_11_3))))))))))))) A s H locs (wX11 hT aT yT (sR (sR (sI (sI (sR gT 9 (some hT_9)) 12 q_5.1) 1 (0 : Int32)) 9 (some hT_8)) 8 (some hT_9)) ++ (wTP (aT 0) aT_0 yT_0 gT_0 ++ (wX6 (aT 2) aT_2 yT_2 gT_2 ++ (wX9 (aT 3) aT_3 yT_3 (sI q_8 16 ((gI q_8 16) + (1 : Int32))) ++ (wX1 (aT 5) (va_up (va_up aT_5 0 (aT 2)) 1 (aT 3)) yT_5 gT_5 ++ (wX4 hT_8 aT_8 yT_8 gT_8 ++ (wX0 (aT_8 0) aT_8_0 yT_8_0 gT_8_0 ++ (wX4 hT_9 aT_9 yT_9 q_5.2.2.2.2.2.1 ++ (wX0 (aT_9 0) aT_9_0 yT_9_0 q_5.2.2.2.2.2.2 ++ (wX5 hT_11 (va_up aT_11 0 (aT 0)) yT_11 q_5.2.1 ++ (wX7 ((va_up aT_11 0 (aT 0)) 1) (va_up (va_up aT_11_1 0 (aT 0)) 1 (aT 2)) yT_11_1 q_5.2.2.1 ++ (wX2 ((va_up aT_11 0 (aT 0)) 2) (va_up aT_11_2 0 (aT 0)) yT_11_2 q_5.2.2.2.1 ++ (wX8 ((va_up aT_11 0 (aT 0)) 3) aT_11_3 yT_11_3 q_5.2.2.2.2.1))))))))))))) := Hx_set X (set_r (n := 1) (i := 3) (j := 4) (wG_len rfl) rfl (set_r (n := 1) (i := 2) (j := 3) (rfl) rfl (set_r (n := 2) (i := 0) (j := 2) (wG_len rfl) rfl (set_l (by rw [wG_len (m := 13) rfl]; decide) (wG_sI (k := 16) rfl))))) hP hD hS
    refine lv_aload_n hx hb dX11_plan_97 rfl (lv_at hl 1 rfl) ?_
    refine va_get (D := D.1) (ci := 11) (v := .ref (aT 5)) (C := RX11) (T := TX11) (N := 14) hx hb hts wi_X11 hown X.1 X.2.1 0 rfl rfl 5 (by decide) (hts _ q2_152) (fun _ h9 => h9) (fl_get (by decide)) dX11_plan_98 ?_
    refine lv_aload_n hx hb dX11_plan_101 rfl (lv_at hl 0 rfl) ?_
    obtain ⟨q_10, hc_11, hF⟩ := bnd_some hF
    refine cV_v (As := [.ref hT_9]) (rest := []) C X (c_X1_start l D (aT 5) (va_up (va_up aT_5 0 (aT 2)) 1 (aT 3)) yT_5 aT_2 yT_2 aT_3 yT_3 hT_9 aT_9 yT_9 aT_9_0 yT_9_0 n gT_5 gT_2 (sI q_8 16 ((gI q_8 16) + (1 : Int32))) q_5.2.2.2.2.2.1 q_5.2.2.2.2.2.2 q_10 hc_11 _) (cwV 1 hts (good_V q5_28 q5_29 q5_30 q1_4 q5_31) rfl rfl rfl (by decide +kernel) ⟨Nat.le_trans (Nat.le_of_ble_eq_true rfl) hR.1, Nat.le_trans (Nat.le_of_ble_eq_true rfl) hR.2⟩) (va_recv X.1 X.2.1 (ci := 1) (q0 := 17) rfl rfl) (X.1.sub (tys' := tX1 yT_5 ++ (tX6 yT_2 ++ (tX9 yT_3 ++ (tX4 yT_9 ++ (tX0 yT_9_0))))) [14, 15, 1, 2, 3, 4, 5, 6, 7, 8, 9, 10, 11, 12, 13, 41, 42, 43, 44, 45, 46, 47, 48, 49, 50, 51, 52, 53, 54, 55, 56, 57, 58, 59, 60, 61, 62, 63, 64, 65] rfl) (X.2.1.sub (ws' := wX1 (aT 5) (va_up (va_up aT_5 0 (aT 2)) 1 (aT 3)) yT_5 gT_5 ++ (wX6 (aT 2) aT_2 yT_2 gT_2 ++ (wX9 (aT 3) aT_3 yT_3 (sI q_8 16 ((gI q_8 16) + (1 : Int32))) ++ (wX4 hT_9 aT_9 yT_9 q_5.2.2.2.2.2.1 ++ (wX0 (aT_9 0) aT_9_0 yT_9_0 q_5.2.2.2.2.2.2))))) [17, 18, 19, 2, 3, 4, 5, 6, 7, 8, 9, 10, 11, 12, 13, 14, 15, 16, 47, 48, 49, 50, 51, 52, 53, 54, 55, 56, 57, 58, 59, 60, 61, 62, 63, 64, 65, 66, 67, 68, 69, 70, 71, 72, 73] rfl) (X.2.2.1.sub (ws' := wX1 (aT 5) (va_up (va_up aT_5 0 (aT 2)) 1 (aT 3)) yT_5 gT_5 ++ (wX6 (aT 2) aT_2 yT_2 gT_2 ++ (wX9 (aT 3) aT_3 yT_3 (sI q_8 16 ((gI q_8 16) + (1 : Int32))) ++ (wX4 hT_9 aT_9 yT_9 q_5.2.2.2.2.2.1 ++ (wX0 (aT_9 0) aT_9_0 yT_9_0 q_5.2.2.2.2.2.2))))) [17, 18, 19, 2, 3, 4, 5, 6, 7, 8, 9, 10, 11, 12, 13, 14, 15, 16, 47, 48, 49, 50, 51, 52, 53, 54, 55, 56, 57, 58, 59, 60, 61, 62, 63, 64, 65, 66, 67, 68, 69, 70, 71, 72, 73] (by decide) rfl) (free_of (wC := wX1 (aT 5) (va_up (va_up aT_5 0 (aT 2)) 1 (aT 3)) yT_5 gT_5 ++ (wX6 (aT 2) aT_2 yT_2 gT_2 ++ (wX9 (aT 3) aT_3 yT_3 (sI q_8 16 ((gI q_8 16) + (1 : Int32))) ++ (wX4 hT_9 aT_9 yT_9 q_5.2.2.2.2.2.1 ++ (wX0 (aT_9 0) aT_9_0 yT_9_0 q_5.2.2.2.2.2.2))))) (isC := [17, 18, 19, 2, 3, 4, 5, 6, 7, 8, 9, 10, 11, 12, 13, 14, 15, 16, 47, 48, 49, 50, 51, 52, 53, 54, 55, 56, 57, 58, 59, 60, 61, 62, 63, 64, 65, 66, 67, 68, 69, 70, 71, 72, 73]) X rfl) hl.1 rfl rfl (Nat.le_of_ble_eq_true rfl) dX11_plan_102 hcs (fun t H1 locs1 ht hB hk hS => ?_)
    have X : Hx D (tX11 yT ++ (tTP yT_0 ++ (tX6 yT_2 ++ (tX9 yT_3 ++ (tX1 yT_5 ++ (tX4 yT_8 ++ (tX0 yT_8_0 ++ (tX4 yT_9 ++ (tX0 yT_9_0 ++ (tX5 yT_11 ++ (tX7 yT_11_1 ++ (tX2 yT_11_2 ++ (tX8 yT_11_3))))))))))))) A s H1 locs1 (wX11 hT aT yT (sR (sR (sI (sI (sR gT 9 (some hT_9)) 12 q_5.1) 1 (0 : Int32)) 9 (some hT_8)) 8 (some hT_9)) ++ (wTP (aT 0) aT_0 yT_0 gT_0 ++ (wX6 (aT 2) aT_2 yT_2 gT_2 ++ (wX9 (aT 3) aT_3 yT_3 q_10.2 ++ (wX1 (aT 5) (va_up (va_up aT_5 0 (aT 2)) 1 (aT 3)) yT_5 q_10.1 ++ (wX4 hT_8 aT_8 yT_8 gT_8 ++ (wX0 (aT_8 0) aT_8_0 yT_8_0 gT_8_0 ++ (wX4 hT_9 aT_9 yT_9 q_5.2.2.2.2.2.1 ++ (wX0 (aT_9 0) aT_9_0 yT_9_0 q_5.2.2.2.2.2.2 ++ (wX5 hT_11 (va_up aT_11 0 (aT 0)) yT_11 q_5.2.1 ++ (wX7 ((va_up aT_11 0 (aT 0)) 1) (va_up (va_up aT_11_1 0 (aT 0)) 1 (aT 2)) yT_11_1 q_5.2.2.1 ++ (wX2 ((va_up aT_11 0 (aT 0)) 2) (va_up aT_11_2 0 (aT 0)) yT_11_2 q_5.2.2.2.1 ++ (wX8 ((va_up aT_11 0 (aT 0)) 3) aT_11_3 yT_11_3 q_5.2.2.2.2.1))))))))))))) := Hx_after (isC := [17, 18, 19, 2, 3, 4, 5, 6, 7, 8, 9, 10, 11, 12, 13, 14, 15, 16, 47, 48, 49, 50, 51, 52, 53, 54, 55, 56, 57, 58, 59, 60, 61, 62, 63, 64, 65, 66, 67, 68, 69, 70, 71, 72, 73]) (isR := [0, 1, 20, 21, 22, 23, 24, 25, 26, 27, 28, 29, 30, 31, 32, 33, 34, 35, 36, 37, 38, 39, 40, 41, 42, 43, 44, 45, 46, 74, 75, 76, 77, 78, 79, 80, 81, 82]) (pm := [0, 1, 41, 42, 43, 44, 45, 46, 47, 48, 49, 50, 51, 52, 53, 54, 55, 38, 39, 40, 2, 3, 4, 5, 6, 7, 8, 9, 10, 11, 12, 13, 14, 15, 16, 17, 18, 19, 20, 21, 22, 23, 24, 25, 26, 27, 28, 56, 57, 58, 59, 60, 61, 62, 63, 64, 65, 66, 67, 68, 69, 70, 71, 72, 73, 74, 75, 76, 77, 78, 79, 80, 81, 82, 29, 30, 31, 32, 33, 34, 35, 36, 37]) (wr := wX11 hT aT yT (sR (sR (sI (sI (sR gT 9 (some hT_9)) 12 q_5.1) 1 (0 : Int32)) 9 (some hT_8)) 8 (some hT_9)) ++ (wTP (aT 0) aT_0 yT_0 gT_0 ++ (wX4 hT_8 aT_8 yT_8 gT_8 ++ (wX0 (aT_8 0) aT_8_0 yT_8_0 gT_8_0 ++ (wX5 hT_11 (va_up aT_11 0 (aT 0)) yT_11 q_5.2.1 ++ (wX7 ((va_up aT_11 0 (aT 0)) 1) (va_up (va_up aT_11_1 0 (aT 0)) 1 (aT 2)) yT_11_1 q_5.2.2.1 ++ (wX2 ((va_up aT_11 0 (aT 0)) 2) (va_up aT_11_2 0 (aT 0)) yT_11_2 q_5.2.2.2.1 ++ (wX8 ((va_up aT_11 0 (aT 0)) 3) aT_11_3 yT_11_3 q_5.2.2.2.2.1)))))))) X ⟨rfl, rfl, by decide, by decide, rfl, by decide⟩ ht hB hk hS
    clear hk hS ht hB
    generalize H1 = H at X ⊢
    generalize locs1 = locs at X ⊢
    refine lv_aload_n hx hb dX11_plan_105 rfl (lv_at hl 0 rfl) ?_
    refine va_getN (D := D.1) (ci := 4) (v := .int (gI q_5.2.2.2.2.2.1 4)) (C := RX4) (T := TX4) (N := 14) hx hb hts wi_X4 hown X.1 X.2.1 47 rfl rfl 4 (by decide) (X.2.2.2.2.2.1.use q2_82 rfl) (fun _ h9 => h9) (fl_get (by decide)) dX11_plan_106 ?_
    have hq := Option.some.inj hF
    subst hq
    exact rt_i C X dX11_plan_109
  · replace hF := iF c hF
    refine lv_iconst (v := (-1 : Int32)) hx hb dX11_plan_57 (by decide) ?_
    refine lv_aload_n hx hb dX11_plan_58 rfl (lv_at hl 2 rfl) ?_
    refine va_getN (D := D.1) (ci := 5) (v := .int (gI q_5.2.1 17)) (C := RX5) (T := TX5) (N := 18) hx hb hts wi_X5 hown X.1 X.2.1 74 rfl rfl 17 (by decide) (X.2.2.2.2.2.1.use q3_69 rfl) (fun _ h9 => h9) (fl_get (by decide)) dX11_plan_59 ?_
    refine lv_isub hx hb dX11_plan_62 ?_
    have hq := Option.some.inj hF
    subst hq
    exact rt_i C X dX11_plan_63
set_option maxHeartbeats 4000000 in
set_option maxRecDepth 100000 in
theorem k_X11_plan_4 (l : Launch) (D : Dx) (hT : Nat) (aT : Nat → Nat) (yT : Nat → ClassId) (aT_0 : Nat → Nat) (yT_0 : Nat → ClassId) (aT_2 : Nat → Nat) (yT_2 : Nat → ClassId) (aT_3 : Nat → Nat) (yT_3 : Nat → ClassId) (aT_5 : Nat → Nat) (yT_5 : Nat → ClassId) (hT_8 : Nat) (aT_8 : Nat → Nat) (yT_8 : Nat → ClassId) (aT_8_0 : Nat → Nat) (yT_8_0 : Nat → ClassId) (hT_9 : Nat) (aT_9 : Nat → Nat) (yT_9 : Nat → ClassId) (aT_9_0 : Nat → Nat) (yT_9_0 : Nat → ClassId) (hT_11 : Nat) (aT_11 : Nat → Nat) (yT_11 : Nat → ClassId) (aT_11_1 : Nat → Nat) (yT_11_1 : Nat → ClassId) (aT_11_2 : Nat → Nat) (yT_11_2 : Nat → ClassId) (aT_11_3 : Nat → Nat) (yT_11_3 : Nat → ClassId) (n : Nat) : S_X11_plan_4 l D hT aT yT aT_0 yT_0 aT_2 yT_2 aT_3 yT_3 aT_5 yT_5 hT_8 aT_8 yT_8 aT_8_0 yT_8_0 hT_9 aT_9 yT_9 aT_9_0 yT_9_0 hT_11 aT_11 yT_11 aT_11_1 yT_11_1 aT_11_2 yT_11_2 aT_11_3 yT_11_3 (b_X11_plan_4 n hT_8 hT_9 aT_9 hT_11) := by
  intro p e s m args below meth c H locs A ls R cells slots gT gT_0 gT_2 gT_3 gT_5 gT_8 gT_8_0 gT_9 gT_9_0 gT_11 gT_11_1 gT_11_2 gT_11_3 q hR hcs C X hl hF
  obtain ⟨hx, hb, hr, hml, hown, hts, hlk⟩ := id C
  unfold b_X11_plan_4 at hF
  refine lv_astore_n (lv' := [(1, .ref hT_11), (0, .ref hT)]) hx hb dX11_plan_4 rfl hl (by decide) rfl (fun ls hl => ?_)
  refine lv_aload_n hx hb dX11_plan_5 rfl (lv_at hl 1 rfl) ?_
  obtain ⟨h_3, hF⟩ := grd_some hF
  refine va_get (D := D.1) (ci := 11) (v := .ref hT_9) (C := RX11) (T := TX11) (N := 14) hx hb hts wi_X11 hown X.1 X.2.1 0 rfl rfl 9 (by decide) (hts _ q2_156) (fun _ h9 => h9) ((fl_get (by decide)).trans (rf_eq h_3)) dX11_plan_6 ?_
  refine lv_ifnonnull (tgt := 22) hx hb dX11_plan_9 (by decide) ?_
  refine lv_aload_n hx hb dX11_plan_22 rfl (lv_at hl 1 rfl) ?_
  obtain ⟨h_4, hF⟩ := grd_some hF
  refine va_get (D := D.1) (ci := 11) (v := .ref hT_9) (C := RX11) (T := TX11) (N := 14) hx hb hts wi_X11 hown X.1 X.2.1 0 rfl rfl 9 (by decide) (hts _ q2_156) (fun _ h9 => h9) ((fl_get (by decide)).trans (rf_eq h_4)) dX11_plan_23 ?_
  exact (k_X11_plan_26 l D hT aT yT aT_0 yT_0 aT_2 yT_2 aT_3 yT_3 aT_5 yT_5 hT_8 aT_8 yT_8 aT_8_0 yT_8_0 hT_9 aT_9 yT_9 aT_9_0 yT_9_0 hT_11 aT_11 yT_11 aT_11_1 yT_11_1 aT_11_2 yT_11_2 aT_11_3 yT_11_3 n) hR hcs C X (lv_sub hl [1, 0] rfl) hF
set_option maxHeartbeats 4000000 in
set_option maxRecDepth 100000 in
theorem c_X11_plan (l : Launch) (D : Dx) (hT : Nat) (aT : Nat → Nat) (yT : Nat → ClassId) (aT_0 : Nat → Nat) (yT_0 : Nat → ClassId) (aT_2 : Nat → Nat) (yT_2 : Nat → ClassId) (aT_3 : Nat → Nat) (yT_3 : Nat → ClassId) (aT_5 : Nat → Nat) (yT_5 : Nat → ClassId) (hT_8 : Nat) (aT_8 : Nat → Nat) (yT_8 : Nat → ClassId) (aT_8_0 : Nat → Nat) (yT_8_0 : Nat → ClassId) (hT_9 : Nat) (aT_9 : Nat → Nat) (yT_9 : Nat → ClassId) (aT_9_0 : Nat → Nat) (yT_9_0 : Nat → ClassId) (hT_11 : Nat) (aT_11 : Nat → Nat) (yT_11 : Nat → ClassId) (aT_11_1 : Nat → Nat) (yT_11_1 : Nat → ClassId) (aT_11_2 : Nat → Nat) (yT_11_2 : Nat → ClassId) (aT_11_3 : Nat → Nat) (yT_11_3 : Nat → ClassId) (n : Nat) (gT : Gs) (gT_0 : Gs) (gT_2 : Gs) (gT_3 : Gs) (gT_5 : Gs) (gT_8 : Gs) (gT_8_0 : Gs) (gT_9 : Gs) (gT_9_0 : Gs) (gT_11 : Gs) (gT_11_1 : Gs) (gT_11_2 : Gs) (gT_11_3 : Gs) (q : Int32 × Gs × Gs × Gs × Gs × Gs × Gs × Gs × Gs × Gs) (hF : f_X11_plan n hT_8 hT_9 aT_9 hT_11 gT gT_0 gT_2 gT_3 gT_5 gT_8 gT_8_0 gT_9 gT_9_0 gT_11 gT_11_1 gT_11_2 gT_11_3 = some q) (sz : Nat) : Met l yX11_plan (ws_ yX11_plan cX11_plan 3 (some .int)) R_X11_plan (PC D (tX11 yT ++ (tTP yT_0 ++ (tX6 yT_2 ++ (tX9 yT_3 ++ (tX1 yT_5 ++ (tX4 yT_8 ++ (tX0 yT_8_0 ++ (tX4 yT_9 ++ (tX0 yT_9_0 ++ (tX5 yT_11 ++ (tX7 yT_11_1 ++ (tX2 yT_11_2 ++ (tX8 yT_11_3))))))))))))) [.ref hT] (wX11 hT aT yT gT ++ (wTP (aT 0) aT_0 yT_0 gT_0 ++ (wX6 (aT 2) aT_2 yT_2 gT_2 ++ (wX9 (aT 3) aT_3 yT_3 gT_3 ++ (wX1 (aT 5) (va_up (va_up aT_5 0 (aT 2)) 1 (aT 3)) yT_5 gT_5 ++ (wX4 hT_8 aT_8 yT_8 gT_8 ++ (wX0 (aT_8 0) aT_8_0 yT_8_0 gT_8_0 ++ (wX4 hT_9 aT_9 yT_9 gT_9 ++ (wX0 (aT_9 0) aT_9_0 yT_9_0 gT_9_0 ++ (wX5 hT_11 (va_up aT_11 0 (aT 0)) yT_11 gT_11 ++ (wX7 ((va_up aT_11 0 (aT 0)) 1) (va_up (va_up aT_11_1 0 (aT 0)) 1 (aT 2)) yT_11_1 gT_11_1 ++ (wX2 ((va_up aT_11 0 (aT 0)) 2) (va_up aT_11_2 0 (aT 0)) yT_11_2 gT_11_2 ++ (wX8 ((va_up aT_11 0 (aT 0)) 3) aT_11_3 yT_11_3 gT_11_3))))))))))))) sz) (QI D (va_A (wX11 hT aT yT gT ++ (wTP (aT 0) aT_0 yT_0 gT_0 ++ (wX6 (aT 2) aT_2 yT_2 gT_2 ++ (wX9 (aT 3) aT_3 yT_3 gT_3 ++ (wX1 (aT 5) (va_up (va_up aT_5 0 (aT 2)) 1 (aT 3)) yT_5 gT_5 ++ (wX4 hT_8 aT_8 yT_8 gT_8 ++ (wX0 (aT_8 0) aT_8_0 yT_8_0 gT_8_0 ++ (wX4 hT_9 aT_9 yT_9 gT_9 ++ (wX0 (aT_9 0) aT_9_0 yT_9_0 gT_9_0 ++ (wX5 hT_11 (va_up aT_11 0 (aT 0)) yT_11 gT_11 ++ (wX7 ((va_up aT_11 0 (aT 0)) 1) (va_up (va_up aT_11_1 0 (aT 0)) 1 (aT 2)) yT_11_1 gT_11_1 ++ (wX2 ((va_up aT_11 0 (aT 0)) 2) (va_up aT_11_2 0 (aT 0)) yT_11_2 gT_11_2 ++ (wX8 ((va_up aT_11 0 (aT 0)) 3) aT_11_3 yT_11_3 gT_11_3))))))))))))) sz) (wX11 hT aT yT q.2.1 ++ (wTP (aT 0) aT_0 yT_0 gT_0 ++ (wX6 (aT 2) aT_2 yT_2 gT_2 ++ (wX9 (aT 3) aT_3 yT_3 q.2.2.1 ++ (wX1 (aT 5) (va_up (va_up aT_5 0 (aT 2)) 1 (aT 3)) yT_5 q.2.2.2.1 ++ (wX4 hT_8 aT_8 yT_8 gT_8 ++ (wX0 (aT_8 0) aT_8_0 yT_8_0 gT_8_0 ++ (wX4 hT_9 aT_9 yT_9 q.2.2.2.2.1 ++ (wX0 (aT_9 0) aT_9_0 yT_9_0 q.2.2.2.2.2.1 ++ (wX5 hT_11 (va_up aT_11 0 (aT 0)) yT_11 q.2.2.2.2.2.2.1 ++ (wX7 ((va_up aT_11 0 (aT 0)) 1) (va_up (va_up aT_11_1 0 (aT 0)) 1 (aT 2)) yT_11_1 q.2.2.2.2.2.2.2.1 ++ (wX2 ((va_up aT_11 0 (aT 0)) 2) (va_up aT_11_2 0 (aT 0)) yT_11_2 q.2.2.2.2.2.2.2.2.1 ++ (wX8 ((va_up aT_11 0 (aT 0)) 3) aT_11_3 yT_11_3 q.2.2.2.2.2.2.2.2.2))))))))))))) q.1) 0 0 (va_A (wX11 hT aT yT gT ++ (wTP (aT 0) aT_0 yT_0 gT_0 ++ (wX6 (aT 2) aT_2 yT_2 gT_2 ++ (wX9 (aT 3) aT_3 yT_3 gT_3 ++ (wX1 (aT 5) (va_up (va_up aT_5 0 (aT 2)) 1 (aT 3)) yT_5 gT_5 ++ (wX4 hT_8 aT_8 yT_8 gT_8 ++ (wX0 (aT_8 0) aT_8_0 yT_8_0 gT_8_0 ++ (wX4 hT_9 aT_9 yT_9 gT_9 ++ (wX0 (aT_9 0) aT_9_0 yT_9_0 gT_9_0 ++ (wX5 hT_11 (va_up aT_11 0 (aT 0)) yT_11 gT_11 ++ (wX7 ((va_up aT_11 0 (aT 0)) 1) (va_up (va_up aT_11_1 0 (aT 0)) 1 (aT 2)) yT_11_1 gT_11_1 ++ (wX2 ((va_up aT_11 0 (aT 0)) 2) (va_up aT_11_2 0 (aT 0)) yT_11_2 gT_11_2 ++ (wX8 ((va_up aT_11 0 (aT 0)) 3) aT_11_3 yT_11_3 gT_11_3))))))))))))) sz) := by
  refine Met.ofW (cc := cX11_plan) (maxL := 3) (ret := (some .int)) (by decide) rfl ?_
  intro p e s m args below meth c s₁ B hml hv
  obtain ⟨rfl, hsz, hP, hK, hD, hN⟩ := hv
  subst hsz
  have C : Cx p s m _ meth c cX11_plan (some .int) 3 RX11 lw_all := Cx_of B hml
  have X := Hx_start hP hK hD hN
  obtain ⟨hx, hb, hr, -, hown, hts, hlk⟩ := id C
  generalize va_A (wX11 hT aT yT gT ++ (wTP (aT 0) aT_0 yT_0 gT_0 ++ (wX6 (aT 2) aT_2 yT_2 gT_2 ++ (wX9 (aT 3) aT_3 yT_3 gT_3 ++ (wX1 (aT 5) (va_up (va_up aT_5 0 (aT 2)) 1 (aT 3)) yT_5 gT_5 ++ (wX4 hT_8 aT_8 yT_8 gT_8 ++ (wX0 (aT_8 0) aT_8_0 yT_8_0 gT_8_0 ++ (wX4 hT_9 aT_9 yT_9 gT_9 ++ (wX0 (aT_9 0) aT_9_0 yT_9_0 gT_9_0 ++ (wX5 hT_11 (va_up aT_11 0 (aT 0)) yT_11 gT_11 ++ (wX7 ((va_up aT_11 0 (aT 0)) 1) (va_up (va_up aT_11_1 0 (aT 0)) 1 (aT 2)) yT_11_1 gT_11_1 ++ (wX2 ((va_up aT_11 0 (aT 0)) 2) (va_up aT_11_2 0 (aT 0)) yT_11_2 gT_11_2 ++ (wX8 ((va_up aT_11 0 (aT 0)) 3) aT_11_3 yT_11_3 gT_11_3))))))))))))) s.heap.size = A at X ⊢
  have hl := lv_entry ([.ref hT]) (n := 3) (Nat.le_of_ble_eq_true rfl)
  rw [lg_entry_eq]
  generalize (lg_sl ([.ref hT]) ++ List.replicate (3 - (lg_sl ([.ref hT])).length) Slot.unset).toArray = ls at hl ⊢
  have hl : lv_has ls 3 [(0, .ref hT)] := hl
  have hR : 10 ≤ R_X11_plan.frames ∧ 253 ≤ R_X11_plan.locals := ⟨Nat.le_of_ble_eq_true rfl, Nat.le_of_ble_eq_true rfl⟩
  have hcs : 0 ≤ R_X11_plan.cells ∧ 0 ≤ R_X11_plan.slots := ⟨Nat.le_of_ble_eq_true rfl, Nat.le_of_ble_eq_true rfl⟩
  unfold f_X11_plan at hF
  refine lv_aload_n hx hb dX11_plan_0 rfl (lv_at hl 0 rfl) ?_
  obtain ⟨q_1, hc_2, hF⟩ := bnd_some hF
  refine cV_r (As := []) (rest := []) C X (c_X11_readerOfTape l D hT aT yT hT_11 (va_up aT_11 0 (aT 0)) yT_11 gT gT_11 q_1 hc_2 _) (cwV 0 hts (good_V q2_206 q2_208 q0_1 q1_1 q2_209) rfl rfl rfl (by decide +kernel) ⟨Nat.le_trans (Nat.le_of_ble_eq_true rfl) hR.1, Nat.le_trans (Nat.le_of_ble_eq_true rfl) hR.2⟩) (va_recv X.1 X.2.1 (ci := 11) (q0 := 0) rfl rfl) (X.1.sub (tys' := tX11 yT ++ (tX5 yT_11)) [66, 67, 68, 69] rfl) (X.2.1.sub (ws' := wX11 hT aT yT gT ++ (wX5 hT_11 (va_up aT_11 0 (aT 0)) yT_11 gT_11)) [0, 74, 75, 76, 77, 78] rfl) (X.2.2.1.sub (ws' := wX11 hT aT yT gT ++ (wX5 hT_11 (va_up aT_11 0 (aT 0)) yT_11 gT_11)) [0, 74, 75, 76, 77, 78] (by decide) rfl) (free_of (wC := wX11 hT aT yT gT ++ (wX5 hT_11 (va_up aT_11 0 (aT 0)) yT_11 gT_11)) (isC := [0, 74, 75, 76, 77, 78]) X rfl) hl.1 rfl rfl (Nat.le_of_ble_eq_true rfl) dX11_plan_1 hcs (fun t H1 locs1 ht hB hk hS => ?_)
  have X : Hx D (tX11 yT ++ (tTP yT_0 ++ (tX6 yT_2 ++ (tX9 yT_3 ++ (tX1 yT_5 ++ (tX4 yT_8 ++ (tX0 yT_8_0 ++ (tX4 yT_9 ++ (tX0 yT_9_0 ++ (tX5 yT_11 ++ (tX7 yT_11_1 ++ (tX2 yT_11_2 ++ (tX8 yT_11_3))))))))))))) A s H1 locs1 (wX11 hT aT yT gT ++ (wTP (aT 0) aT_0 yT_0 gT_0 ++ (wX6 (aT 2) aT_2 yT_2 gT_2 ++ (wX9 (aT 3) aT_3 yT_3 gT_3 ++ (wX1 (aT 5) (va_up (va_up aT_5 0 (aT 2)) 1 (aT 3)) yT_5 gT_5 ++ (wX4 hT_8 aT_8 yT_8 gT_8 ++ (wX0 (aT_8 0) aT_8_0 yT_8_0 gT_8_0 ++ (wX4 hT_9 aT_9 yT_9 gT_9 ++ (wX0 (aT_9 0) aT_9_0 yT_9_0 gT_9_0 ++ (wX5 hT_11 (va_up aT_11 0 (aT 0)) yT_11 gT_11 ++ (wX7 ((va_up aT_11 0 (aT 0)) 1) (va_up (va_up aT_11_1 0 (aT 0)) 1 (aT 2)) yT_11_1 gT_11_1 ++ (wX2 ((va_up aT_11 0 (aT 0)) 2) (va_up aT_11_2 0 (aT 0)) yT_11_2 gT_11_2 ++ (wX8 ((va_up aT_11 0 (aT 0)) 3) aT_11_3 yT_11_3 gT_11_3))))))))))))) := Hx_after (isC := [0, 74, 75, 76, 77, 78]) (isR := [1, 2, 3, 4, 5, 6, 7, 8, 9, 10, 11, 12, 13, 14, 15, 16, 17, 18, 19, 20, 21, 22, 23, 24, 25, 26, 27, 28, 29, 30, 31, 32, 33, 34, 35, 36, 37, 38, 39, 40, 41, 42, 43, 44, 45, 46, 47, 48, 49, 50, 51, 52, 53, 54, 55, 56, 57, 58, 59, 60, 61, 62, 63, 64, 65, 66, 67, 68, 69, 70, 71, 72, 73, 79, 80, 81, 82]) (pm := [77, 0, 1, 2, 3, 4, 5, 6, 7, 8, 9, 10, 11, 12, 13, 14, 15, 16, 17, 18, 19, 20, 21, 22, 23, 24, 25, 26, 27, 28, 29, 30, 31, 32, 33, 34, 35, 36, 37, 38, 39, 40, 41, 42, 43, 44, 45, 46, 47, 48, 49, 50, 51, 52, 53, 54, 55, 56, 57, 58, 59, 60, 61, 62, 63, 64, 65, 66, 67, 68, 69, 70, 71, 72, 78, 79, 80, 81, 82, 73, 74, 75, 76]) (wr := wTP (aT 0) aT_0 yT_0 gT_0 ++ (wX6 (aT 2) aT_2 yT_2 gT_2 ++ (wX9 (aT 3) aT_3 yT_3 gT_3 ++ (wX1 (aT 5) (va_up (va_up aT_5 0 (aT 2)) 1 (aT 3)) yT_5 gT_5 ++ (wX4 hT_8 aT_8 yT_8 gT_8 ++ (wX0 (aT_8 0) aT_8_0 yT_8_0 gT_8_0 ++ (wX4 hT_9 aT_9 yT_9 gT_9 ++ (wX0 (aT_9 0) aT_9_0 yT_9_0 gT_9_0 ++ (wX7 ((va_up aT_11 0 (aT 0)) 1) (va_up (va_up aT_11_1 0 (aT 0)) 1 (aT 2)) yT_11_1 gT_11_1 ++ (wX2 ((va_up aT_11 0 (aT 0)) 2) (va_up aT_11_2 0 (aT 0)) yT_11_2 gT_11_2 ++ (wX8 ((va_up aT_11 0 (aT 0)) 3) aT_11_3 yT_11_3 gT_11_3))))))))))) X ⟨rfl, rfl, by decide, by decide, rfl, by decide⟩ ht hB hk hS
  clear hk hS ht hB
  generalize H1 = H at X ⊢
  generalize locs1 = locs at X ⊢
  exact (k_X11_plan_4 l D hT aT yT aT_0 yT_0 aT_2 yT_2 aT_3 yT_3 aT_5 yT_5 hT_8 aT_8 yT_8 aT_8_0 yT_8_0 hT_9 aT_9 yT_9 aT_9_0 yT_9_0 hT_11 aT_11 yT_11 aT_11_1 yT_11_1 aT_11_2 yT_11_2 aT_11_3 yT_11_3 n) hR hcs C X (lv_sub hl [0] rfl) hF

/-! ### X11_readAsked -/
theorem dX11_readAsked_0 : decode cX11_readAsked 0 = .ok (.aload_n 0, 1) := by decide +kernel
theorem dX11_readAsked_1 : decode cX11_readAsked 1 = .ok (.getfield 70, 3) := by decide +kernel
theorem dX11_readAsked_4 : decode cX11_readAsked 4 = .ok (.astore_n 1, 1) := by decide +kernel
theorem dX11_readAsked_5 : decode cX11_readAsked 5 = .ok (.aload_n 1, 1) := by decide +kernel
theorem dX11_readAsked_6 : decode cX11_readAsked 6 = .ok (.ifnonnull 16, 3) := by decide +kernel
theorem dX11_readAsked_9 : decode cX11_readAsked 9 = .ok (.new 132, 3) := by decide +kernel
theorem dX11_readAsked_12 : decode cX11_readAsked 12 = .ok (.dup, 1) := by decide +kernel
theorem dX11_readAsked_13 : decode cX11_readAsked 13 = .ok (.invokespecial 263, 3) := by decide +kernel
theorem dX11_readAsked_16 : decode cX11_readAsked 16 = .ok (.astore_n 1, 1) := by decide +kernel
theorem dX11_readAsked_17 : decode cX11_readAsked 17 = .ok (.aload_n 0, 1) := by decide +kernel
theorem dX11_readAsked_18 : decode cX11_readAsked 18 = .ok (.aload_n 1, 1) := by decide +kernel
theorem dX11_readAsked_19 : decode cX11_readAsked 19 = .ok (.putfield 70, 3) := by decide +kernel
theorem dX11_readAsked_22 : decode cX11_readAsked 22 = .ok (.aload_n 0, 1) := by decide +kernel
theorem dX11_readAsked_23 : decode cX11_readAsked 23 = .ok (.aload_n 0, 1) := by decide +kernel
theorem dX11_readAsked_24 : decode cX11_readAsked 24 = .ok (.invokevirtual 93, 3) := by decide +kernel
theorem dX11_readAsked_27 : decode cX11_readAsked 27 = .ok (.aload_n 0, 1) := by decide +kernel
theorem dX11_readAsked_28 : decode cX11_readAsked 28 = .ok (.getfield 13, 3) := by decide +kernel
theorem dX11_readAsked_31 : decode cX11_readAsked 31 = .ok (.aload_n 0, 1) := by decide +kernel
theorem dX11_readAsked_32 : decode cX11_readAsked 32 = .ok (.getfield 63, 3) := by decide +kernel
theorem dX11_readAsked_35 : decode cX11_readAsked 35 = .ok (.aload_n 1, 1) := by decide +kernel
theorem dX11_readAsked_36 : decode cX11_readAsked 36 = .ok (.invokevirtual 264, 3) := by decide +kernel
theorem dX11_readAsked_39 : decode cX11_readAsked 39 = .ok (.putfield 78, 3) := by decide +kernel
theorem dX11_readAsked_42 : decode cX11_readAsked 42 = .ok (.aload_n 0, 1) := by decide +kernel
theorem dX11_readAsked_43 : decode cX11_readAsked 43 = .ok (.iconst 0, 1) := by decide +kernel
theorem dX11_readAsked_44 : decode cX11_readAsked 44 = .ok (.putfield 13, 3) := by decide +kernel
theorem dX11_readAsked_47 : decode cX11_readAsked 47 = .ok (.aload_n 1, 1) := by decide +kernel
theorem dX11_readAsked_48 : decode cX11_readAsked 48 = .ok (.areturn, 1) := by decide +kernel
abbrev R_X11_readAsked : Room := ({ frames := 9, cells := 0, slots := 0, locals := 225 } : Room)
def b_X11_readAsked_27 (n : Nat) (hT_8 : Nat) (hT_10 : Nat) (hT_11 : Nat) (gT : Gs) (gT_0 : Gs) (gT_2 : Gs) (gT_8 : Gs) (gT_10 : Gs) (gT_11 : Gs) (gT_11_1 : Gs) (gT_11_2 : Gs) (gT_11_3 : Gs) : Option (Gs × Gs × Gs × Gs × Gs × Gs) :=
  grd (rEq (gR gT 8) hT_8) (bnd (f_X5_readAsked n hT_8 hT_10 gT_11 gT_0 gT_11_1 gT_2 gT_11_2 gT_11_3 gT_8 gT_10 (gI gT 1)) (fun q_5 => some ((sI (sI gT 12 q_5.1) 1 (0 : Int32)), q_5.2.2.2.2.2, q_5.2.1, q_5.2.2.1, q_5.2.2.2.1, q_5.2.2.2.2.1)))
def b_X11_readAsked_22 (n : Nat) (hT_8 : Nat) (hT_10 : Nat) (hT_11 : Nat) (gT : Gs) (gT_0 : Gs) (gT_2 : Gs) (gT_8 : Gs) (gT_10 : Gs) (gT_11 : Gs) (gT_11_1 : Gs) (gT_11_2 : Gs) (gT_11_3 : Gs) : Option (Gs × Gs × Gs × Gs × Gs × Gs) :=
  bnd (f_X11_readerOfTape hT_11 gT gT_11) (fun q_2 => b_X11_readAsked_27 n hT_8 hT_10 hT_11 gT gT_0 gT_2 gT_8 gT_10 gT_11 gT_11_1 gT_11_2 gT_11_3)
def f_X11_readAsked (n : Nat) (hT_8 : Nat) (hT_10 : Nat) (hT_11 : Nat) (gT : Gs) (gT_0 : Gs) (gT_2 : Gs) (gT_8 : Gs) (gT_10 : Gs) (gT_11 : Gs) (gT_11_1 : Gs) (gT_11_2 : Gs) (gT_11_3 : Gs) : Option (Gs × Gs × Gs × Gs × Gs × Gs) :=
  grd (rEq (gR gT 10) hT_10) (b_X11_readAsked_22 n hT_8 hT_10 hT_11 gT gT_0 gT_2 gT_8 gT_10 gT_11 gT_11_1 gT_11_2 gT_11_3)
def S_X11_readAsked_27 (l : Launch) (D : Dx) (hT : Nat) (aT : Nat → Nat) (yT : Nat → ClassId) (aT_0 : Nat → Nat) (yT_0 : Nat → ClassId) (aT_2 : Nat → Nat) (yT_2 : Nat → ClassId) (hT_8 : Nat) (aT_8 : Nat → Nat) (yT_8 : Nat → ClassId) (hT_10 : Nat) (aT_10 : Nat → Nat) (yT_10 : Nat → ClassId) (hT_11 : Nat) (aT_11 : Nat → Nat) (yT_11 : Nat → ClassId) (aT_11_1 : Nat → Nat) (yT_11_1 : Nat → ClassId) (aT_11_2 : Nat → Nat) (yT_11_2 : Nat → ClassId) (aT_11_3 : Nat → Nat) (yT_11_3 : Nat → ClassId) (fn : Gs → Gs → Gs → Gs → Gs → Gs → Gs → Gs → Gs → Option (Gs × Gs × Gs × Gs × Gs × Gs)) : Prop :=
  ∀ {p : Program} {e : Env} {s : State} {m : MethodId} {args : Array Value} {below : List Frame} {meth : Method} {c : Code} {H : Heap} {locs : List Loc} {A : Nat → Prop} {ls : Array Slot} {R : Room} {cells slots : Nat} {gT : Gs} {gT_0 : Gs} {gT_2 : Gs} {gT_8 : Gs} {gT_10 : Gs} {gT_11 : Gs} {gT_11_1 : Gs} {gT_11_2 : Gs} {gT_11_3 : Gs} {q : Gs × Gs × Gs × Gs × Gs × Gs}, (9 ≤ R.frames ∧ 225 ≤ R.locals) → (cells ≤ R.cells ∧ slots ≤ R.slots) → Cx p s m args meth c cX11_readAsked (some (.object "TurningHall$Code")) 2 RX11 lw_all → Hx D (tX11 yT ++ (tTP yT_0 ++ (tX6 yT_2 ++ (tX4 yT_8 ++ (tX0 yT_10 ++ (tX5 yT_11 ++ (tX7 yT_11_1 ++ (tX2 yT_11_2 ++ (tX8 yT_11_3))))))))) A s H locs (wX11 hT aT yT gT ++ (wTP (aT 0) aT_0 yT_0 gT_0 ++ (wX6 (aT 2) aT_2 yT_2 gT_2 ++ (wX4 hT_8 aT_8 yT_8 gT_8 ++ (wX0 hT_10 aT_10 yT_10 gT_10 ++ (wX5 hT_11 (va_up aT_11 0 (aT 0)) yT_11 gT_11 ++ (wX7 ((va_up aT_11 0 (aT 0)) 1) (va_up (va_up aT_11_1 0 (aT 0)) 1 (aT 2)) yT_11_1 gT_11_1 ++ (wX2 ((va_up aT_11 0 (aT 0)) 2) (va_up aT_11_2 0 (aT 0)) yT_11_2 gT_11_2 ++ (wX8 ((va_up aT_11 0 (aT 0)) 3) aT_11_3 yT_11_3 gT_11_3))))))))) → lv_has ls 2 [(0, .ref hT), (1, .ref hT_10)] → fn gT gT_0 gT_2 gT_8 gT_10 gT_11 gT_11_1 gT_11_2 gT_11_3 = some q → W p l e R s m args below meth c H locs cells slots (MQ below (QR D A (wX11 hT aT yT q.1 ++ (wTP (aT 0) aT_0 yT_0 gT_0 ++ (wX6 (aT 2) aT_2 yT_2 gT_2 ++ (wX4 hT_8 aT_8 yT_8 gT_8 ++ (wX0 hT_10 aT_10 yT_10 q.2.1 ++ (wX5 hT_11 (va_up aT_11 0 (aT 0)) yT_11 q.2.2.1 ++ (wX7 ((va_up aT_11 0 (aT 0)) 1) (va_up (va_up aT_11_1 0 (aT 0)) 1 (aT 2)) yT_11_1 q.2.2.2.1 ++ (wX2 ((va_up aT_11 0 (aT 0)) 2) (va_up aT_11_2 0 (aT 0)) yT_11_2 q.2.2.2.2.1 ++ (wX8 ((va_up aT_11 0 (aT 0)) 3) aT_11_3 yT_11_3 q.2.2.2.2.2))))))))) hT_10) args s cells slots A) (F0 m 27 ls [.ref hT_11, .ref hT])
def S_X11_readAsked_22 (l : Launch) (D : Dx) (hT : Nat) (aT : Nat → Nat) (yT : Nat → ClassId) (aT_0 : Nat → Nat) (yT_0 : Nat → ClassId) (aT_2 : Nat → Nat) (yT_2 : Nat → ClassId) (hT_8 : Nat) (aT_8 : Nat → Nat) (yT_8 : Nat → ClassId) (hT_10 : Nat) (aT_10 : Nat → Nat) (yT_10 : Nat → ClassId) (hT_11 : Nat) (aT_11 : Nat → Nat) (yT_11 : Nat → ClassId) (aT_11_1 : Nat → Nat) (yT_11_1 : Nat → ClassId) (aT_11_2 : Nat → Nat) (yT_11_2 : Nat → ClassId) (aT_11_3 : Nat → Nat) (yT_11_3 : Nat → ClassId) (fn : Gs → Gs → Gs → Gs → Gs → Gs → Gs → Gs → Gs → Option (Gs × Gs × Gs × Gs × Gs × Gs)) : Prop :=
  ∀ {p : Program} {e : Env} {s : State} {m : MethodId} {args : Array Value} {below : List Frame} {meth : Method} {c : Code} {H : Heap} {locs : List Loc} {A : Nat → Prop} {ls : Array Slot} {R : Room} {cells slots : Nat} {gT : Gs} {gT_0 : Gs} {gT_2 : Gs} {gT_8 : Gs} {gT_10 : Gs} {gT_11 : Gs} {gT_11_1 : Gs} {gT_11_2 : Gs} {gT_11_3 : Gs} {q : Gs × Gs × Gs × Gs × Gs × Gs}, (9 ≤ R.frames ∧ 225 ≤ R.locals) → (cells ≤ R.cells ∧ slots ≤ R.slots) → Cx p s m args meth c cX11_readAsked (some (.object "TurningHall$Code")) 2 RX11 lw_all → Hx D (tX11 yT ++ (tTP yT_0 ++ (tX6 yT_2 ++ (tX4 yT_8 ++ (tX0 yT_10 ++ (tX5 yT_11 ++ (tX7 yT_11_1 ++ (tX2 yT_11_2 ++ (tX8 yT_11_3))))))))) A s H locs (wX11 hT aT yT gT ++ (wTP (aT 0) aT_0 yT_0 gT_0 ++ (wX6 (aT 2) aT_2 yT_2 gT_2 ++ (wX4 hT_8 aT_8 yT_8 gT_8 ++ (wX0 hT_10 aT_10 yT_10 gT_10 ++ (wX5 hT_11 (va_up aT_11 0 (aT 0)) yT_11 gT_11 ++ (wX7 ((va_up aT_11 0 (aT 0)) 1) (va_up (va_up aT_11_1 0 (aT 0)) 1 (aT 2)) yT_11_1 gT_11_1 ++ (wX2 ((va_up aT_11 0 (aT 0)) 2) (va_up aT_11_2 0 (aT 0)) yT_11_2 gT_11_2 ++ (wX8 ((va_up aT_11 0 (aT 0)) 3) aT_11_3 yT_11_3 gT_11_3))))))))) → lv_has ls 2 [(0, .ref hT), (1, .ref hT_10)] → fn gT gT_0 gT_2 gT_8 gT_10 gT_11 gT_11_1 gT_11_2 gT_11_3 = some q → W p l e R s m args below meth c H locs cells slots (MQ below (QR D A (wX11 hT aT yT q.1 ++ (wTP (aT 0) aT_0 yT_0 gT_0 ++ (wX6 (aT 2) aT_2 yT_2 gT_2 ++ (wX4 hT_8 aT_8 yT_8 gT_8 ++ (wX0 hT_10 aT_10 yT_10 q.2.1 ++ (wX5 hT_11 (va_up aT_11 0 (aT 0)) yT_11 q.2.2.1 ++ (wX7 ((va_up aT_11 0 (aT 0)) 1) (va_up (va_up aT_11_1 0 (aT 0)) 1 (aT 2)) yT_11_1 q.2.2.2.1 ++ (wX2 ((va_up aT_11 0 (aT 0)) 2) (va_up aT_11_2 0 (aT 0)) yT_11_2 q.2.2.2.2.1 ++ (wX8 ((va_up aT_11 0 (aT 0)) 3) aT_11_3 yT_11_3 q.2.2.2.2.2))))))))) hT_10) args s cells slots A) (F0 m 22 ls [])
set_option maxHeartbeats 4000000 in
set_option maxRecDepth 100000 in
theorem k_X11_readAsked_27 (l : Launch) (D : Dx) (hT : Nat) (aT : Nat → Nat) (yT : Nat → ClassId) (aT_0 : Nat → Nat) (yT_0 : Nat → ClassId) (aT_2 : Nat → Nat) (yT_2 : Nat → ClassId) (hT_8 : Nat) (aT_8 : Nat → Nat) (yT_8 : Nat → ClassId) (hT_10 : Nat) (aT_10 : Nat → Nat) (yT_10 : Nat → ClassId) (hT_11 : Nat) (aT_11 : Nat → Nat) (yT_11 : Nat → ClassId) (aT_11_1 : Nat → Nat) (yT_11_1 : Nat → ClassId) (aT_11_2 : Nat → Nat) (yT_11_2 : Nat → ClassId) (aT_11_3 : Nat → Nat) (yT_11_3 : Nat → ClassId) (n : Nat) : S_X11_readAsked_27 l D hT aT yT aT_0 yT_0 aT_2 yT_2 hT_8 aT_8 yT_8 hT_10 aT_10 yT_10 hT_11 aT_11 yT_11 aT_11_1 yT_11_1 aT_11_2 yT_11_2 aT_11_3 yT_11_3 (b_X11_readAsked_27 n hT_8 hT_10 hT_11) := by
  intro p e s m args below meth c H locs A ls R cells slots gT gT_0 gT_2 gT_8 gT_10 gT_11 gT_11_1 gT_11_2 gT_11_3 q hR hcs C X hl hF
  obtain ⟨hx, hb, hr, hml, hown, hts, hlk⟩ := id C
  unfold b_X11_readAsked_27 at hF
  refine lv_aload_n hx hb dX11_readAsked_27 rfl (lv_at hl 0 rfl) ?_
  refine va_get (D := D.1) (ci := 11) (v := .int (gI gT 1)) (C := RX11) (T := TX11) (N := 14) hx hb hts wi_X11 hown X.1 X.2.1 0 rfl rfl 1 (by decide) (hts _ q2_148) (fun _ h9 => h9) (fl_get (by decide)) dX11_readAsked_28 ?_
  refine lv_aload_n hx hb dX11_readAsked_31 rfl (lv_at hl 0 rfl) ?_
  obtain ⟨h_4, hF⟩ := grd_some hF
  refine va_get (D := D.1) (ci := 11) (v := .ref hT_8) (C := RX11) (T := TX11) (N := 14) hx hb hts wi_X11 hown X.1 X.2.1 0 rfl rfl 8 (by decide) (hts _ q2_155) (fun _ h9 => h9) ((fl_get (by decide)).trans (rf_eq h_4)) dX11_readAsked_32 ?_
  refine lv_aload_n hx hb dX11_readAsked_35 rfl (lv_at hl 1 rfl) ?_
  obtain ⟨q_5, hc_6, hF⟩ := bnd_some hF
  refine cV_i (As := [.int (gI gT 1), .ref hT_8, .ref hT_10]) (rest := [.ref hT]) C X (c_X5_readAsked l D hT_11 (va_up aT_11 0 (aT 0)) yT_11 aT_0 yT_0 (va_up (va_up aT_11_1 0 (aT 0)) 1 (aT 2)) yT_11_1 aT_2 yT_2 (va_up aT_11_2 0 (aT 0)) yT_11_2 aT_11_3 yT_11_3 hT_8 aT_8 yT_8 hT_10 aT_10 yT_10 n gT_11 gT_0 gT_11_1 gT_2 gT_11_2 gT_11_3 gT_8 gT_10 (gI gT 1) q_5 hc_6 _) (cwV 3 hts (good_V q6_24 q6_25 q6_26 q1_10 q6_27) rfl rfl rfl (by decide +kernel) ⟨Nat.le_trans (Nat.le_of_ble_eq_true rfl) hR.1, Nat.le_trans (Nat.le_of_ble_eq_true rfl) hR.2⟩) (va_recv X.1 X.2.1 (ci := 5) (q0 := 31) rfl rfl) (X.1.sub (tys' := tX5 yT_11 ++ (tTP yT_0 ++ (tX7 yT_11_1 ++ (tX6 yT_2 ++ (tX2 yT_11_2 ++ (tX8 yT_11_3 ++ (tX4 yT_8 ++ (tX0 yT_10)))))))) [27, 28, 29, 30, 0, 1, 31, 2, 3, 4, 5, 6, 7, 8, 9, 10, 11, 12, 13, 14, 15, 16, 17, 18, 19, 20, 21, 22, 23, 24, 25, 26] rfl) (X.2.1.sub (ws' := wX5 hT_11 (va_up aT_11 0 (aT 0)) yT_11 gT_11 ++ (wTP (aT 0) aT_0 yT_0 gT_0 ++ (wX7 ((va_up aT_11 0 (aT 0)) 1) (va_up (va_up aT_11_1 0 (aT 0)) 1 (aT 2)) yT_11_1 gT_11_1 ++ (wX6 (aT 2) aT_2 yT_2 gT_2 ++ (wX2 ((va_up aT_11 0 (aT 0)) 2) (va_up aT_11_2 0 (aT 0)) yT_11_2 gT_11_2 ++ (wX8 ((va_up aT_11 0 (aT 0)) 3) aT_11_3 yT_11_3 gT_11_3 ++ (wX4 hT_8 aT_8 yT_8 gT_8 ++ (wX0 hT_10 aT_10 yT_10 gT_10)))))))) [31, 32, 33, 34, 35, 1, 36, 2, 3, 37, 38, 39, 4, 5, 6, 7, 8, 9, 10, 11, 12, 13, 14, 15, 16, 17, 18, 19, 20, 21, 22, 23, 24, 25, 26, 27, 28, 29, 30] rfl) (X.2.2.1.sub (ws' := wX5 hT_11 (va_up aT_11 0 (aT 0)) yT_11 gT_11 ++ (wTP (aT 0) aT_0 yT_0 gT_0 ++ (wX7 ((va_up aT_11 0 (aT 0)) 1) (va_up (va_up aT_11_1 0 (aT 0)) 1 (aT 2)) yT_11_1 gT_11_1 ++ (wX6 (aT 2) aT_2 yT_2 gT_2 ++ (wX2 ((va_up aT_11 0 (aT 0)) 2) (va_up aT_11_2 0 (aT 0)) yT_11_2 gT_11_2 ++ (wX8 ((va_up aT_11 0 (aT 0)) 3) aT_11_3 yT_11_3 gT_11_3 ++ (wX4 hT_8 aT_8 yT_8 gT_8 ++ (wX0 hT_10 aT_10 yT_10 gT_10)))))))) [31, 32, 33, 34, 35, 1, 36, 2, 3, 37, 38, 39, 4, 5, 6, 7, 8, 9, 10, 11, 12, 13, 14, 15, 16, 17, 18, 19, 20, 21, 22, 23, 24, 25, 26, 27, 28, 29, 30] (by decide) rfl) (free_of (wC := wX5 hT_11 (va_up aT_11 0 (aT 0)) yT_11 gT_11 ++ (wTP (aT 0) aT_0 yT_0 gT_0 ++ (wX7 ((va_up aT_11 0 (aT 0)) 1) (va_up (va_up aT_11_1 0 (aT 0)) 1 (aT 2)) yT_11_1 gT_11_1 ++ (wX6 (aT 2) aT_2 yT_2 gT_2 ++ (wX2 ((va_up aT_11 0 (aT 0)) 2) (va_up aT_11_2 0 (aT 0)) yT_11_2 gT_11_2 ++ (wX8 ((va_up aT_11 0 (aT 0)) 3) aT_11_3 yT_11_3 gT_11_3 ++ (wX4 hT_8 aT_8 yT_8 gT_8 ++ (wX0 hT_10 aT_10 yT_10 gT_10)))))))) (isC := [31, 32, 33, 34, 35, 1, 36, 2, 3, 37, 38, 39, 4, 5, 6, 7, 8, 9, 10, 11, 12, 13, 14, 15, 16, 17, 18, 19, 20, 21, 22, 23, 24, 25, 26, 27, 28, 29, 30]) X rfl) hl.1 rfl rfl (Nat.le_of_ble_eq_true rfl) dX11_readAsked_36 hcs (fun t H1 locs1 ht hB hk hS => ?_)
  have X : Hx D (tX11 yT ++ (tTP yT_0 ++ (tX6 yT_2 ++ (tX4 yT_8 ++ (tX0 yT_10 ++ (tX5 yT_11 ++ (tX7 yT_11_1 ++ (tX2 yT_11_2 ++ (tX8 yT_11_3))))))))) A s H1 locs1 (wX11 hT aT yT gT ++ (wTP (aT 0) aT_0 yT_0 gT_0 ++ (wX6 (aT 2) aT_2 yT_2 gT_2 ++ (wX4 hT_8 aT_8 yT_8 gT_8 ++ (wX0 hT_10 aT_10 yT_10 q_5.2.2.2.2.2 ++ (wX5 hT_11 (va_up aT_11 0 (aT 0)) yT_11 q_5.2.1 ++ (wX7 ((va_up aT_11 0 (aT 0)) 1) (va_up (va_up aT_11_1 0 (aT 0)) 1 (aT 2)) yT_11_1 q_5.2.2.1 ++ (wX2 ((va_up aT_11 0 (aT 0)) 2) (va_up aT_11_2 0 (aT 0)) yT_11_2 q_5.2.2.2.1 ++ (wX8 ((va_up aT_11 0 (aT 0)) 3) aT_11_3 yT_11_3 q_5.2.2.2.2.1))))))))) := Hx_after (isC := [31, 32, 33, 34, 35, 1, 36, 2, 3, 37, 38, 39, 4, 5, 6, 7, 8, 9, 10, 11, 12, 13, 14, 15, 16, 17, 18, 19, 20, 21, 22, 23, 24, 25, 26, 27, 28, 29, 30]) (isR := [0]) (pm := [0, 6, 8, 9, 13, 14, 15, 16, 17, 18, 19, 20, 21, 22, 23, 24, 25, 26, 27, 28, 29, 30, 31, 32, 33, 34, 35, 36, 37, 38, 39, 1, 2, 3, 4, 5, 7, 10, 11, 12]) (wr := wX11 hT aT yT gT) X ⟨rfl, rfl, by decide, by decide, rfl, by decide⟩ ht hB hk hS
  clear hk hS ht hB
  generalize H1 = H at X ⊢
  generalize locs1 = locs at X ⊢
  refine va_put (D := D.1) (ci := 11) (v := .int q_5.1) (ty := .int) (C := RX11) (T := TX11) (N := 14) hx hb hts wi_X11 tyX11 tyX11_ok nmX11 hown X.1 X.2.1 X.2.2.1 X.2.2.2.1 0 rfl rfl 12 (by decide) (hts _ q2_159) (fun _ h9 => h9) rfl (by decide +kernel) rfl rfl (by rw [List.length_map, List.length_range]; decide) dX11_readAsked_39 (fun H locs hP hD hS => ?_)
  have X : Hx D (tX11 yT ++ (tTP yT_0 ++ (tX6 yT_2 ++ (tX4 yT_8 ++ (tX0 yT_10 ++ (tX5 yT_11 ++ (tX7 yT_11_1 ++ (tX2 yT_11_2 ++ (tX8 yT_11_3))))))))) A s H locs (wX11 hT aT yT (sI gT 12 q_5.1) ++ (wTP (aT 0) aT_0 yT_0 gT_0 ++ (wX6 (aT 2) aT_2 yT_2 gT_2 ++ (wX4 hT_8 aT_8 yT_8 gT_8 ++ (wX0 hT_10 aT_10 yT_10 q_5.2.2.2.2.2 ++ (wX5 hT_11 (va_up aT_11 0 (aT 0)) yT_11 q_5.2.1 ++ (wX7 ((va_up aT_11 0 (aT 0)) 1) (va_up (va_up aT_11_1 0 (aT 0)) 1 (aT 2)) yT_11_1 q_5.2.2.1 ++ (wX2 ((va_up aT_11 0 (aT 0)) 2) (va_up aT_11_2 0 (aT 0)) yT_11_2 q_5.2.2.2.1 ++ (wX8 ((va_up aT_11 0 (aT 0)) 3) aT_11_3 yT_11_3 q_5.2.2.2.2.1))))))))) := Hx_set X (set_l (by rw [wG_len (m := 1) rfl]; decide) (wG_sI (k := 12) rfl)) hP hD hS
  refine lv_aload_n hx hb dX11_readAsked_42 rfl (lv_at hl 0 rfl) ?_
  refine lv_iconst (v := (0 : Int32)) hx hb dX11_readAsked_43 (by decide) ?_
  refine va_put (D := D.1) (ci := 11) (v := .int (0 : Int32)) (ty := .int) (C := RX11) (T := TX11) (N := 14) hx hb hts wi_X11 tyX11 tyX11_ok nmX11 hown X.1 X.2.1 X.2.2.1 X.2.2.2.1 0 rfl rfl 1 (by decide) (hts _ q2_148) (fun _ h9 => h9) rfl (by decide +kernel) rfl rfl (by rw [List.length_map, List.length_range]; decide) dX11_readAsked_44 (fun H locs hP hD hS => ?_)
  have X : Hx D (tX11 yT ++ (tTP yT_0 ++ (tX6 yT_2 ++ (tX4 yT_8 ++ (tX0 yT_10 ++ (tX5 yT_11 ++ (tX7 yT_11_1 ++ (tX2 yT_11_2 ++ (tX8 yT_11_3))))))))) A s H locs (wX11 hT aT yT (sI (sI gT 12 q_5.1) 1 (0 : Int32)) ++ (wTP (aT 0) aT_0 yT_0 gT_0 ++ (wX6 (aT 2) aT_2 yT_2 gT_2 ++ (wX4 hT_8 aT_8 yT_8 gT_8 ++ (wX0 hT_10 aT_10 yT_10 q_5.2.2.2.2.2 ++ (wX5 hT_11 (va_up aT_11 0 (aT 0)) yT_11 q_5.2.1 ++ (wX7 ((va_up aT_11 0 (aT 0)) 1) (va_up (va_up aT_11_1 0 (aT 0)) 1 (aT 2)) yT_11_1 q_5.2.2.1 ++ (wX2 ((va_up aT_11 0 (aT 0)) 2) (va_up aT_11_2 0 (aT 0)) yT_11_2 q_5.2.2.2.1 ++ (wX8 ((va_up aT_11 0 (aT 0)) 3) aT_11_3 yT_11_3 q_5.2.2.2.2.1))))))))) := Hx_set X (set_l (by rw [wG_len (m := 1) rfl]; decide) (wG_sI (k := 1) rfl)) hP hD hS
  refine lv_aload_n hx hb dX11_readAsked_47 rfl (lv_at hl 1 rfl) ?_
  have hq := Option.some.inj hF
  subst hq
  exact rt_r C X dX11_readAsked_48
set_option maxHeartbeats 4000000 in
set_option maxRecDepth 100000 in
theorem k_X11_readAsked_22 (l : Launch) (D : Dx) (hT : Nat) (aT : Nat → Nat) (yT : Nat → ClassId) (aT_0 : Nat → Nat) (yT_0 : Nat → ClassId) (aT_2 : Nat → Nat) (yT_2 : Nat → ClassId) (hT_8 : Nat) (aT_8 : Nat → Nat) (yT_8 : Nat → ClassId) (hT_10 : Nat) (aT_10 : Nat → Nat) (yT_10 : Nat → ClassId) (hT_11 : Nat) (aT_11 : Nat → Nat) (yT_11 : Nat → ClassId) (aT_11_1 : Nat → Nat) (yT_11_1 : Nat → ClassId) (aT_11_2 : Nat → Nat) (yT_11_2 : Nat → ClassId) (aT_11_3 : Nat → Nat) (yT_11_3 : Nat → ClassId) (n : Nat) : S_X11_readAsked_22 l D hT aT yT aT_0 yT_0 aT_2 yT_2 hT_8 aT_8 yT_8 hT_10 aT_10 yT_10 hT_11 aT_11 yT_11 aT_11_1 yT_11_1 aT_11_2 yT_11_2 aT_11_3 yT_11_3 (b_X11_readAsked_22 n hT_8 hT_10 hT_11) := by
  intro p e s m args below meth c H locs A ls R cells slots gT gT_0 gT_2 gT_8 gT_10 gT_11 gT_11_1 gT_11_2 gT_11_3 q hR hcs C X hl hF
  obtain ⟨hx, hb, hr, hml, hown, hts, hlk⟩ := id C
  unfold b_X11_readAsked_22 at hF
  refine lv_aload_n hx hb dX11_readAsked_22 rfl (lv_at hl 0 rfl) ?_
  refine lv_aload_n hx hb dX11_readAsked_23 rfl (lv_at hl 0 rfl) ?_
  obtain ⟨q_2, hc_3, hF⟩ := bnd_some hF
  refine cV_r (As := []) (rest := [.ref hT]) C X (c_X11_readerOfTape l D hT aT yT hT_11 (va_up aT_11 0 (aT 0)) yT_11 gT gT_11 q_2 hc_3 _) (cwV 0 hts (good_V q2_206 q2_208 q0_1 q1_1 q2_209) rfl rfl rfl (by decide +kernel) ⟨Nat.le_trans (Nat.le_of_ble_eq_true rfl) hR.1, Nat.le_trans (Nat.le_of_ble_eq_true rfl) hR.2⟩) (va_recv X.1 X.2.1 (ci := 11) (q0 := 0) rfl rfl) (X.1.sub (tys' := tX11 yT ++ (tX5 yT_11)) [27, 28, 29, 30] rfl) (X.2.1.sub (ws' := wX11 hT aT yT gT ++ (wX5 hT_11 (va_up aT_11 0 (aT 0)) yT_11 gT_11)) [0, 31, 32, 33, 34, 35] rfl) (X.2.2.1.sub (ws' := wX11 hT aT yT gT ++ (wX5 hT_11 (va_up aT_11 0 (aT 0)) yT_11 gT_11)) [0, 31, 32, 33, 34, 35] (by decide) rfl) (free_of (wC := wX11 hT aT yT gT ++ (wX5 hT_11 (va_up aT_11 0 (aT 0)) yT_11 gT_11)) (isC := [0, 31, 32, 33, 34, 35]) X rfl) hl.1 rfl rfl (Nat.le_of_ble_eq_true rfl) dX11_readAsked_24 hcs (fun t H1 locs1 ht hB hk hS => ?_)
  have X : Hx D (tX11 yT ++ (tTP yT_0 ++ (tX6 yT_2 ++ (tX4 yT_8 ++ (tX0 yT_10 ++ (tX5 yT_11 ++ (tX7 yT_11_1 ++ (tX2 yT_11_2 ++ (tX8 yT_11_3))))))))) A s H1 locs1 (wX11 hT aT yT gT ++ (wTP (aT 0) aT_0 yT_0 gT_0 ++ (wX6 (aT 2) aT_2 yT_2 gT_2 ++ (wX4 hT_8 aT_8 yT_8 gT_8 ++ (wX0 hT_10 aT_10 yT_10 gT_10 ++ (wX5 hT_11 (va_up aT_11 0 (aT 0)) yT_11 gT_11 ++ (wX7 ((va_up aT_11 0 (aT 0)) 1) (va_up (va_up aT_11_1 0 (aT 0)) 1 (aT 2)) yT_11_1 gT_11_1 ++ (wX2 ((va_up aT_11 0 (aT 0)) 2) (va_up aT_11_2 0 (aT 0)) yT_11_2 gT_11_2 ++ (wX8 ((va_up aT_11 0 (aT 0)) 3) aT_11_3 yT_11_3 gT_11_3))))))))) := Hx_after (isC := [0, 31, 32, 33, 34, 35]) (isR := [1, 2, 3, 4, 5, 6, 7, 8, 9, 10, 11, 12, 13, 14, 15, 16, 17, 18, 19, 20, 21, 22, 23, 24, 25, 26, 27, 28, 29, 30, 36, 37, 38, 39]) (pm := [34, 0, 1, 2, 3, 4, 5, 6, 7, 8, 9, 10, 11, 12, 13, 14, 15, 16, 17, 18, 19, 20, 21, 22, 23, 24, 25, 26, 27, 28, 29, 35, 36, 37, 38, 39, 30, 31, 32, 33]) (wr := wTP (aT 0) aT_0 yT_0 gT_0 ++ (wX6 (aT 2) aT_2 yT_2 gT_2 ++ (wX4 hT_8 aT_8 yT_8 gT_8 ++ (wX0 hT_10 aT_10 yT_10 gT_10 ++ (wX7 ((va_up aT_11 0 (aT 0)) 1) (va_up (va_up aT_11_1 0 (aT 0)) 1 (aT 2)) yT_11_1 gT_11_1 ++ (wX2 ((va_up aT_11 0 (aT 0)) 2) (va_up aT_11_2 0 (aT 0)) yT_11_2 gT_11_2 ++ (wX8 ((va_up aT_11 0 (aT 0)) 3) aT_11_3 yT_11_3 gT_11_3))))))) X ⟨rfl, rfl, by decide, by decide, rfl, by decide⟩ ht hB hk hS
  clear hk hS ht hB
  generalize H1 = H at X ⊢
  generalize locs1 = locs at X ⊢
  exact (k_X11_readAsked_27 l D hT aT yT aT_0 yT_0 aT_2 yT_2 hT_8 aT_8 yT_8 hT_10 aT_10 yT_10 hT_11 aT_11 yT_11 aT_11_1 yT_11_1 aT_11_2 yT_11_2 aT_11_3 yT_11_3 n) hR hcs C X (lv_sub hl [0, 1] rfl) hF
set_option maxHeartbeats 4000000 in
set_option maxRecDepth 100000 in
theorem c_X11_readAsked (l : Launch) (D : Dx) (hT : Nat) (aT : Nat → Nat) (yT : Nat → ClassId) (aT_0 : Nat → Nat) (yT_0 : Nat → ClassId) (aT_2 : Nat → Nat) (yT_2 : Nat → ClassId) (hT_8 : Nat) (aT_8 : Nat → Nat) (yT_8 : Nat → ClassId) (hT_10 : Nat) (aT_10 : Nat → Nat) (yT_10 : Nat → ClassId) (hT_11 : Nat) (aT_11 : Nat → Nat) (yT_11 : Nat → ClassId) (aT_11_1 : Nat → Nat) (yT_11_1 : Nat → ClassId) (aT_11_2 : Nat → Nat) (yT_11_2 : Nat → ClassId) (aT_11_3 : Nat → Nat) (yT_11_3 : Nat → ClassId) (n : Nat) (gT : Gs) (gT_0 : Gs) (gT_2 : Gs) (gT_8 : Gs) (gT_10 : Gs) (gT_11 : Gs) (gT_11_1 : Gs) (gT_11_2 : Gs) (gT_11_3 : Gs) (q : Gs × Gs × Gs × Gs × Gs × Gs) (hF : f_X11_readAsked n hT_8 hT_10 hT_11 gT gT_0 gT_2 gT_8 gT_10 gT_11 gT_11_1 gT_11_2 gT_11_3 = some q) (sz : Nat) : Met l yX11_readAsked (ws_ yX11_readAsked cX11_readAsked 2 (some (.object "TurningHall$Code"))) R_X11_readAsked (PC D (tX11 yT ++ (tTP yT_0 ++ (tX6 yT_2 ++ (tX4 yT_8 ++ (tX0 yT_10 ++ (tX5 yT_11 ++ (tX7 yT_11_1 ++ (tX2 yT_11_2 ++ (tX8 yT_11_3))))))))) [.ref hT] (wX11 hT aT yT gT ++ (wTP (aT 0) aT_0 yT_0 gT_0 ++ (wX6 (aT 2) aT_2 yT_2 gT_2 ++ (wX4 hT_8 aT_8 yT_8 gT_8 ++ (wX0 hT_10 aT_10 yT_10 gT_10 ++ (wX5 hT_11 (va_up aT_11 0 (aT 0)) yT_11 gT_11 ++ (wX7 ((va_up aT_11 0 (aT 0)) 1) (va_up (va_up aT_11_1 0 (aT 0)) 1 (aT 2)) yT_11_1 gT_11_1 ++ (wX2 ((va_up aT_11 0 (aT 0)) 2) (va_up aT_11_2 0 (aT 0)) yT_11_2 gT_11_2 ++ (wX8 ((va_up aT_11 0 (aT 0)) 3) aT_11_3 yT_11_3 gT_11_3))))))))) sz) (QR D (va_A (wX11 hT aT yT gT ++ (wTP (aT 0) aT_0 yT_0 gT_0 ++ (wX6 (aT 2) aT_2 yT_2 gT_2 ++ (wX4 hT_8 aT_8 yT_8 gT_8 ++ (wX0 hT_10 aT_10 yT_10 gT_10 ++ (wX5 hT_11 (va_up aT_11 0 (aT 0)) yT_11 gT_11 ++ (wX7 ((va_up aT_11 0 (aT 0)) 1) (va_up (va_up aT_11_1 0 (aT 0)) 1 (aT 2)) yT_11_1 gT_11_1 ++ (wX2 ((va_up aT_11 0 (aT 0)) 2) (va_up aT_11_2 0 (aT 0)) yT_11_2 gT_11_2 ++ (wX8 ((va_up aT_11 0 (aT 0)) 3) aT_11_3 yT_11_3 gT_11_3))))))))) sz) (wX11 hT aT yT q.1 ++ (wTP (aT 0) aT_0 yT_0 gT_0 ++ (wX6 (aT 2) aT_2 yT_2 gT_2 ++ (wX4 hT_8 aT_8 yT_8 gT_8 ++ (wX0 hT_10 aT_10 yT_10 q.2.1 ++ (wX5 hT_11 (va_up aT_11 0 (aT 0)) yT_11 q.2.2.1 ++ (wX7 ((va_up aT_11 0 (aT 0)) 1) (va_up (va_up aT_11_1 0 (aT 0)) 1 (aT 2)) yT_11_1 q.2.2.2.1 ++ (wX2 ((va_up aT_11 0 (aT 0)) 2) (va_up aT_11_2 0 (aT 0)) yT_11_2 q.2.2.2.2.1 ++ (wX8 ((va_up aT_11 0 (aT 0)) 3) aT_11_3 yT_11_3 q.2.2.2.2.2))))))))) hT_10) 0 0 (va_A (wX11 hT aT yT gT ++ (wTP (aT 0) aT_0 yT_0 gT_0 ++ (wX6 (aT 2) aT_2 yT_2 gT_2 ++ (wX4 hT_8 aT_8 yT_8 gT_8 ++ (wX0 hT_10 aT_10 yT_10 gT_10 ++ (wX5 hT_11 (va_up aT_11 0 (aT 0)) yT_11 gT_11 ++ (wX7 ((va_up aT_11 0 (aT 0)) 1) (va_up (va_up aT_11_1 0 (aT 0)) 1 (aT 2)) yT_11_1 gT_11_1 ++ (wX2 ((va_up aT_11 0 (aT 0)) 2) (va_up aT_11_2 0 (aT 0)) yT_11_2 gT_11_2 ++ (wX8 ((va_up aT_11 0 (aT 0)) 3) aT_11_3 yT_11_3 gT_11_3))))))))) sz) := by
  refine Met.ofW (cc := cX11_readAsked) (maxL := 2) (ret := (some (.object "TurningHall$Code"))) (by decide) rfl ?_
  intro p e s m args below meth c s₁ B hml hv
  obtain ⟨rfl, hsz, hP, hK, hD, hN⟩ := hv
  subst hsz
  have C : Cx p s m _ meth c cX11_readAsked (some (.object "TurningHall$Code")) 2 RX11 lw_all := Cx_of B hml
  have X := Hx_start hP hK hD hN
  obtain ⟨hx, hb, hr, -, hown, hts, hlk⟩ := id C
  generalize va_A (wX11 hT aT yT gT ++ (wTP (aT 0) aT_0 yT_0 gT_0 ++ (wX6 (aT 2) aT_2 yT_2 gT_2 ++ (wX4 hT_8 aT_8 yT_8 gT_8 ++ (wX0 hT_10 aT_10 yT_10 gT_10 ++ (wX5 hT_11 (va_up aT_11 0 (aT 0)) yT_11 gT_11 ++ (wX7 ((va_up aT_11 0 (aT 0)) 1) (va_up (va_up aT_11_1 0 (aT 0)) 1 (aT 2)) yT_11_1 gT_11_1 ++ (wX2 ((va_up aT_11 0 (aT 0)) 2) (va_up aT_11_2 0 (aT 0)) yT_11_2 gT_11_2 ++ (wX8 ((va_up aT_11 0 (aT 0)) 3) aT_11_3 yT_11_3 gT_11_3))))))))) s.heap.size = A at X ⊢
  have hl := lv_entry ([.ref hT]) (n := 2) (Nat.le_of_ble_eq_true rfl)
  rw [lg_entry_eq]
  generalize (lg_sl ([.ref hT]) ++ List.replicate (2 - (lg_sl ([.ref hT])).length) Slot.unset).toArray = ls at hl ⊢
  have hl : lv_has ls 2 [(0, .ref hT)] := hl
  have hR : 9 ≤ R_X11_readAsked.frames ∧ 225 ≤ R_X11_readAsked.locals := ⟨Nat.le_of_ble_eq_true rfl, Nat.le_of_ble_eq_true rfl⟩
  have hcs : 0 ≤ R_X11_readAsked.cells ∧ 0 ≤ R_X11_readAsked.slots := ⟨Nat.le_of_ble_eq_true rfl, Nat.le_of_ble_eq_true rfl⟩
  unfold f_X11_readAsked at hF
  refine lv_aload_n hx hb dX11_readAsked_0 rfl (lv_at hl 0 rfl) ?_
  obtain ⟨h_1, hF⟩ := grd_some hF
  refine va_get (D := D.1) (ci := 11) (v := .ref hT_10) (C := RX11) (T := TX11) (N := 14) hx hb hts wi_X11 hown X.1 X.2.1 0 rfl rfl 10 (by decide) (hts _ q2_157) (fun _ h9 => h9) ((fl_get (by decide)).trans (rf_eq h_1)) dX11_readAsked_1 ?_
  refine lv_astore_n (lv' := [(1, .ref hT_10), (0, .ref hT)]) hx hb dX11_readAsked_4 rfl hl (by decide) rfl (fun ls hl => ?_)
  refine lv_aload_n hx hb dX11_readAsked_5 rfl (lv_at hl 0 rfl) ?_
  refine lv_ifnonnull (tgt := 22) hx hb dX11_readAsked_6 (by decide) ?_
  exact (k_X11_readAsked_22 l D hT aT yT aT_0 yT_0 aT_2 yT_2 hT_8 aT_8 yT_8 hT_10 aT_10 yT_10 hT_11 aT_11 yT_11 aT_11_1 yT_11_1 aT_11_2 yT_11_2 aT_11_3 yT_11_3 n) hR hcs C X (lv_sub hl [1, 0] rfl) hF

/-! ### X11_ask -/
theorem dX11_ask_0 : decode cX11_ask 0 = .ok (.aload_n 0, 1) := by decide +kernel
theorem dX11_ask_1 : decode cX11_ask 1 = .ok (.invokevirtual 243, 3) := by decide +kernel
theorem dX11_ask_4 : decode cX11_ask 4 = .ok (.astore_n 1, 1) := by decide +kernel
theorem dX11_ask_5 : decode cX11_ask 5 = .ok (.aload_n 0, 1) := by decide +kernel
theorem dX11_ask_6 : decode cX11_ask 6 = .ok (.getfield 78, 3) := by decide +kernel
theorem dX11_ask_9 : decode cX11_ask 9 = .ok (.ifCond .eq 13, 3) := by decide +kernel
theorem dX11_ask_12 : decode cX11_ask 12 = .ok (.iconst (-1), 1) := by decide +kernel
theorem dX11_ask_13 : decode cX11_ask 13 = .ok (.aload_n 0, 1) := by decide +kernel
theorem dX11_ask_14 : decode cX11_ask 14 = .ok (.invokevirtual 93, 3) := by decide +kernel
theorem dX11_ask_17 : decode cX11_ask 17 = .ok (.getfield 103, 3) := by decide +kernel
theorem dX11_ask_20 : decode cX11_ask 20 = .ok (.isub, 1) := by decide +kernel
theorem dX11_ask_21 : decode cX11_ask 21 = .ok (.ireturn, 1) := by decide +kernel
theorem dX11_ask_22 : decode cX11_ask 22 = .ok (.aload_n 0, 1) := by decide +kernel
theorem dX11_ask_23 : decode cX11_ask 23 = .ok (.getfield 40, 3) := by decide +kernel
theorem dX11_ask_26 : decode cX11_ask 26 = .ok (.aload_n 0, 1) := by decide +kernel
theorem dX11_ask_27 : decode cX11_ask 27 = .ok (.getfield 63, 3) := by decide +kernel
theorem dX11_ask_30 : decode cX11_ask 30 = .ok (.aload_n 1, 1) := by decide +kernel
theorem dX11_ask_31 : decode cX11_ask 31 = .ok (.iconst 0, 1) := by decide +kernel
theorem dX11_ask_32 : decode cX11_ask 32 = .ok (.invokevirtual 247, 3) := by decide +kernel
theorem dX11_ask_35 : decode cX11_ask 35 = .ok (.ifCond .ne 14, 3) := by decide +kernel
theorem dX11_ask_38 : decode cX11_ask 38 = .ok (.bipush 8, 2) := by decide +kernel
theorem dX11_ask_40 : decode cX11_ask 40 = .ok (.aload_n 0, 1) := by decide +kernel
theorem dX11_ask_41 : decode cX11_ask 41 = .ok (.getfield 40, 3) := by decide +kernel
theorem dX11_ask_44 : decode cX11_ask 44 = .ok (.getfield 251, 3) := by decide +kernel
theorem dX11_ask_47 : decode cX11_ask 47 = .ok (.iadd, 1) := by decide +kernel
theorem dX11_ask_48 : decode cX11_ask 48 = .ok (.ireturn, 1) := by decide +kernel
theorem dX11_ask_49 : decode cX11_ask 49 = .ok (.aload_n 1, 1) := by decide +kernel
theorem dX11_ask_50 : decode cX11_ask 50 = .ok (.getfield 254, 3) := by decide +kernel
theorem dX11_ask_53 : decode cX11_ask 53 = .ok (.iconst 0, 1) := by decide +kernel
theorem dX11_ask_54 : decode cX11_ask 54 = .ok (.iaload, 1) := by decide +kernel
theorem dX11_ask_55 : decode cX11_ask 55 = .ok (.istore_n 2, 1) := by decide +kernel
theorem dX11_ask_56 : decode cX11_ask 56 = .ok (.aload_n 0, 1) := by decide +kernel
theorem dX11_ask_57 : decode cX11_ask 57 = .ok (.aload_n 0, 1) := by decide +kernel
theorem dX11_ask_58 : decode cX11_ask 58 = .ok (.getfield 20, 3) := by decide +kernel
theorem dX11_ask_61 : decode cX11_ask 61 = .ok (.iload_n 2, 1) := by decide +kernel
theorem dX11_ask_62 : decode cX11_ask 62 = .ok (.aload_n 0, 1) := by decide +kernel
theorem dX11_ask_63 : decode cX11_ask 63 = .ok (.getfield 40, 3) := by decide +kernel
theorem dX11_ask_66 : decode cX11_ask 66 = .ok (.getfield 257, 3) := by decide +kernel
theorem dX11_ask_69 : decode cX11_ask 69 = .ok (.iconst 0, 1) := by decide +kernel
theorem dX11_ask_70 : decode cX11_ask 70 = .ok (.laload, 1) := by decide +kernel
theorem dX11_ask_71 : decode cX11_ask 71 = .ok (.aload_n 0, 1) := by decide +kernel
theorem dX11_ask_72 : decode cX11_ask 72 = .ok (.getfield 40, 3) := by decide +kernel
theorem dX11_ask_75 : decode cX11_ask 75 = .ok (.getfield 260, 3) := by decide +kernel
theorem dX11_ask_78 : decode cX11_ask 78 = .ok (.iconst 0, 1) := by decide +kernel
theorem dX11_ask_79 : decode cX11_ask 79 = .ok (.daload, 1) := by decide +kernel
theorem dX11_ask_80 : decode cX11_ask 80 = .ok (.invokevirtual 190, 3) := by decide +kernel
theorem dX11_ask_83 : decode cX11_ask 83 = .ok (.putfield 81, 3) := by decide +kernel
theorem dX11_ask_86 : decode cX11_ask 86 = .ok (.iload_n 2, 1) := by decide +kernel
theorem dX11_ask_87 : decode cX11_ask 87 = .ok (.ireturn, 1) := by decide +kernel
abbrev R_X11_ask : Room := ({ frames := 10, cells := 0, slots := 0, locals := 246 } : Room)
def b_X11_ask_4 (n : Nat) (hT_8 : Nat) (hT_10 : Nat) (hT_11 : Nat) (gT : Gs) (gT_0 : Gs) (gT_2 : Gs) (gT_3 : Gs) (gT_5 : Gs) (gT_8 : Gs) (gT_10 : Gs) (gT_11 : Gs) (gT_11_1 : Gs) (gT_11_2 : Gs) (gT_11_3 : Gs) : Option (Int32 × Gs × Gs × Gs × Gs × Gs × Gs × Gs) :=
  if (gI gT 12) = 0 then (grd (rEq (gR gT 8) hT_8) (bnd (f_X1_run n gT_5 gT_2 gT_3 gT_8 gT_10 (0 : Int32)) (fun q_4 => if q_4.1 = 0 then (some ((8 : Int32) + (gI q_4.2 5), gT, q_4.2, gT_10, gT_11, gT_11_1, gT_11_2, gT_11_3)) else (grd (inB (0 : Int32) 92) (grd (inB (0 : Int32) 512) (grd (inB (0 : Int32) 512) (bnd (f_X6_bitsOf n gT_2 (gIA gT_10 17 (0 : Int32).toNatClampNeg) (gLA q_4.2 2 (0 : Int32).toNatClampNeg) (gDA q_4.2 3 (0 : Int32).toNatClampNeg)) (fun q_9 => some (gIA gT_10 17 (0 : Int32).toNatClampNeg, (sL gT 13 q_9), q_4.2, gT_10, gT_11, gT_11_1, gT_11_2, gT_11_3))))))))) else (bnd (f_X11_readerOfTape hT_11 gT gT_11) (fun q_11 => some ((-1 : Int32) - (gI gT_11 17), gT, gT_5, gT_10, gT_11, gT_11_1, gT_11_2, gT_11_3)))
def f_X11_ask (n : Nat) (hT_8 : Nat) (hT_10 : Nat) (hT_11 : Nat) (gT : Gs) (gT_0 : Gs) (gT_2 : Gs) (gT_3 : Gs) (gT_5 : Gs) (gT_8 : Gs) (gT_10 : Gs) (gT_11 : Gs) (gT_11_1 : Gs) (gT_11_2 : Gs) (gT_11_3 : Gs) : Option (Int32 × Gs × Gs × Gs × Gs × Gs × Gs × Gs) :=
  bnd (f_X11_readAsked n hT_8 hT_10 hT_11 gT gT_0 gT_2 gT_8 gT_10 gT_11 gT_11_1 gT_11_2 gT_11_3) (fun q_1 => b_X11_ask_4 n hT_8 hT_10 hT_11 q_1.1 gT_0 gT_2 gT_3 gT_5 gT_8 q_1.2.1 q_1.2.2.1 q_1.2.2.2.1 q_1.2.2.2.2.1 q_1.2.2.2.2.2)
def S_X11_ask_4 (l : Launch) (D : Dx) (hT : Nat) (aT : Nat → Nat) (yT : Nat → ClassId) (aT_0 : Nat → Nat) (yT_0 : Nat → ClassId) (aT_2 : Nat → Nat) (yT_2 : Nat → ClassId) (aT_3 : Nat → Nat) (yT_3 : Nat → ClassId) (aT_5 : Nat → Nat) (yT_5 : Nat → ClassId) (hT_8 : Nat) (aT_8 : Nat → Nat) (yT_8 : Nat → ClassId) (hT_10 : Nat) (aT_10 : Nat → Nat) (yT_10 : Nat → ClassId) (hT_11 : Nat) (aT_11 : Nat → Nat) (yT_11 : Nat → ClassId) (aT_11_1 : Nat → Nat) (yT_11_1 : Nat → ClassId) (aT_11_2 : Nat → Nat) (yT_11_2 : Nat → ClassId) (aT_11_3 : Nat → Nat) (yT_11_3 : Nat → ClassId) (fn : Gs → Gs → Gs → Gs → Gs → Gs → Gs → Gs → Gs → Gs → Gs → Option (Int32 × Gs × Gs × Gs × Gs × Gs × Gs × Gs)) : Prop :=
  ∀ {p : Program} {e : Env} {s : State} {m : MethodId} {args : Array Value} {below : List Frame} {meth : Method} {c : Code} {H : Heap} {locs : List Loc} {A : Nat → Prop} {ls : Array Slot} {R : Room} {cells slots : Nat} {gT : Gs} {gT_0 : Gs} {gT_2 : Gs} {gT_3 : Gs} {gT_5 : Gs} {gT_8 : Gs} {gT_10 : Gs} {gT_11 : Gs} {gT_11_1 : Gs} {gT_11_2 : Gs} {gT_11_3 : Gs} {q : Int32 × Gs × Gs × Gs × Gs × Gs × Gs × Gs}, (10 ≤ R.frames ∧ 246 ≤ R.locals) → (cells ≤ R.cells ∧ slots ≤ R.slots) → Cx p s m args meth c cX11_ask (some .int) 3 RX11 lw_all → Hx D (tX11 yT ++ (tTP yT_0 ++ (tX6 yT_2 ++ (tX9 yT_3 ++ (tX1 yT_5 ++ (tX4 yT_8 ++ (tX0 yT_10 ++ (tX5 yT_11 ++ (tX7 yT_11_1 ++ (tX2 yT_11_2 ++ (tX8 yT_11_3))))))))))) A s H locs (wX11 hT aT yT gT ++ (wTP (aT 0) aT_0 yT_0 gT_0 ++ (wX6 (aT 2) aT_2 yT_2 gT_2 ++ (wX9 (aT 3) aT_3 yT_3 gT_3 ++ (wX1 (aT 5) (va_up (va_up aT_5 0 (aT 2)) 1 (aT 3)) yT_5 gT_5 ++ (wX4 hT_8 aT_8 yT_8 gT_8 ++ (wX0 hT_10 aT_10 yT_10 gT_10 ++ (wX5 hT_11 (va_up aT_11 0 (aT 0)) yT_11 gT_11 ++ (wX7 ((va_up aT_11 0 (aT 0)) 1) (va_up (va_up aT_11_1 0 (aT 0)) 1 (aT 2)) yT_11_1 gT_11_1 ++ (wX2 ((va_up aT_11 0 (aT 0)) 2) (va_up aT_11_2 0 (aT 0)) yT_11_2 gT_11_2 ++ (wX8 ((va_up aT_11 0 (aT 0)) 3) aT_11_3 yT_11_3 gT_11_3))))))))))) → lv_has ls 3 [(0, .ref hT)] → fn gT gT_0 gT_2 gT_3 gT_5 gT_8 gT_10 gT_11 gT_11_1 gT_11_2 gT_11_3 = some q → W p l e R s m args below meth c H locs cells slots (MQ below (QI D A (wX11 hT aT yT q.2.1 ++ (wTP (aT 0) aT_0 yT_0 gT_0 ++ (wX6 (aT 2) aT_2 yT_2 gT_2 ++ (wX9 (aT 3) aT_3 yT_3 gT_3 ++ (wX1 (aT 5) (va_up (va_up aT_5 0 (aT 2)) 1 (aT 3)) yT_5 q.2.2.1 ++ (wX4 hT_8 aT_8 yT_8 gT_8 ++ (wX0 hT_10 aT_10 yT_10 q.2.2.2.1 ++ (wX5 hT_11 (va_up aT_11 0 (aT 0)) yT_11 q.2.2.2.2.1 ++ (wX7 ((va_up aT_11 0 (aT 0)) 1) (va_up (va_up aT_11_1 0 (aT 0)) 1 (aT 2)) yT_11_1 q.2.2.2.2.2.1 ++ (wX2 ((va_up aT_11 0 (aT 0)) 2) (va_up aT_11_2 0 (aT 0)) yT_11_2 q.2.2.2.2.2.2.1 ++ (wX8 ((va_up aT_11 0 (aT 0)) 3) aT_11_3 yT_11_3 q.2.2.2.2.2.2.2))))))))))) q.1) args s cells slots A) (F0 m 4 ls [.ref hT_10])
set_option maxHeartbeats 4000000 in
set_option maxRecDepth 100000 in
theorem k_X11_ask_4 (l : Launch) (D : Dx) (hT : Nat) (aT : Nat → Nat) (yT : Nat → ClassId) (aT_0 : Nat → Nat) (yT_0 : Nat → ClassId) (aT_2 : Nat → Nat) (yT_2 : Nat → ClassId) (aT_3 : Nat → Nat) (yT_3 : Nat → ClassId) (aT_5 : Nat → Nat) (yT_5 : Nat → ClassId) (hT_8 : Nat) (aT_8 : Nat → Nat) (yT_8 : Nat → ClassId) (hT_10 : Nat) (aT_10 : Nat → Nat) (yT_10 : Nat → ClassId) (hT_11 : Nat) (aT_11 : Nat → Nat) (yT_11 : Nat → ClassId) (aT_11_1 : Nat → Nat) (yT_11_1 : Nat → ClassId) (aT_11_2 : Nat → Nat) (yT_11_2 : Nat → ClassId) (aT_11_3 : Nat → Nat) (yT_11_3 : Nat → ClassId) (n : Nat) : S_X11_ask_4 l D hT aT yT aT_0 yT_0 aT_2 yT_2 aT_3 yT_3 aT_5 yT_5 hT_8 aT_8 yT_8 hT_10 aT_10 yT_10 hT_11 aT_11 yT_11 aT_11_1 yT_11_1 aT_11_2 yT_11_2 aT_11_3 yT_11_3 (b_X11_ask_4 n hT_8 hT_10 hT_11) := by
  intro p e s m args below meth c H locs A ls R cells slots gT gT_0 gT_2 gT_3 gT_5 gT_8 gT_10 gT_11 gT_11_1 gT_11_2 gT_11_3 q hR hcs C X hl hF
  obtain ⟨hx, hb, hr, hml, hown, hts, hlk⟩ := id C
  unfold b_X11_ask_4 at hF
  refine lv_astore_n (lv' := [(1, .ref hT_10), (0, .ref hT)]) hx hb dX11_ask_4 rfl hl (by decide) rfl (fun ls hl => ?_)
  refine lv_aload_n hx hb dX11_ask_5 rfl (lv_at hl 1 rfl) ?_
  refine va_get (D := D.1) (ci := 11) (v := .int (gI gT 12)) (C := RX11) (T := TX11) (N := 14) hx hb hts wi_X11 hown X.1 X.2.1 0 rfl rfl 12 (by decide) (hts _ q2_159) (fun _ h9 => h9) (fl_get (by decide)) dX11_ask_6 ?_
  refine lv_if_eq (tgt := 22) hx hb dX11_ask_9 (by decide) (fun c => ?_) (fun c => ?_)
  · replace hF := iT c hF
    refine lv_aload_n hx hb dX11_ask_22 rfl (lv_at hl 1 rfl) ?_
    refine va_get (D := D.1) (ci := 11) (v := .ref (aT 5)) (C := RX11) (T := TX11) (N := 14) hx hb hts wi_X11 hown X.1 X.2.1 0 rfl rfl 5 (by decide) (hts _ q2_152) (fun _ h9 => h9) (fl_get (by decide)) dX11_ask_23 ?_
    refine lv_aload_n hx hb dX11_ask_26 rfl (lv_at hl 1 rfl) ?_
    obtain ⟨h_3, hF⟩ := grd_some hF
    refine va_get (D := D.1) (ci := 11) (v := .ref hT_8) (C := RX11) (T := TX11) (N := 14) hx hb hts wi_X11 hown X.1 X.2.1 0 rfl rfl 8 (by decide) (hts _ q2_155) (fun _ h9 => h9) ((fl_get (by decide)).trans (rf_eq h_3)) dX11_ask_27 ?_
    refine lv_aload_n hx hb dX11_ask_30 rfl (lv_at hl 0 rfl) ?_
    refine lv_iconst (v := (0 : Int32)) hx hb dX11_ask_31 (by decide) ?_
    obtain ⟨q_4, hc_5, hF⟩ := bnd_some hF
    refine cV_i (As := [.ref hT_8, .ref hT_10, .int (0 : Int32)]) (rest := []) C X (c_X1_run l D (aT 5) (va_up (va_up aT_5 0 (aT 2)) 1 (aT 3)) yT_5 aT_2 yT_2 aT_3 yT_3 hT_8 aT_8 yT_8 hT_10 aT_10 yT_10 n gT_5 gT_2 gT_3 gT_8 gT_10 (0 : Int32) q_4 hc_5 _) (cwV 3 hts (good_V q6_33 q5_33 q5_34 q1_4 q5_35) rfl rfl rfl (by decide +kernel) ⟨Nat.le_trans (Nat.le_of_ble_eq_true rfl) hR.1, Nat.le_trans (Nat.le_of_ble_eq_true rfl) hR.2⟩) (va_recv X.1 X.2.1 (ci := 1) (q0 := 17) rfl rfl) (X.1.sub (tys' := tX1 yT_5 ++ (tX6 yT_2 ++ (tX9 yT_3 ++ (tX4 yT_8 ++ (tX0 yT_10))))) [14, 15, 1, 2, 3, 4, 5, 6, 7, 8, 9, 10, 11, 12, 13, 16, 17, 18, 19, 20, 21, 22, 23, 24, 25, 26, 27, 28, 29, 30, 31, 32, 33, 34, 35, 36, 37, 38, 39, 40] rfl) (X.2.1.sub (ws' := wX1 (aT 5) (va_up (va_up aT_5 0 (aT 2)) 1 (aT 3)) yT_5 gT_5 ++ (wX6 (aT 2) aT_2 yT_2 gT_2 ++ (wX9 (aT 3) aT_3 yT_3 gT_3 ++ (wX4 hT_8 aT_8 yT_8 gT_8 ++ (wX0 hT_10 aT_10 yT_10 gT_10))))) [17, 18, 19, 2, 3, 4, 5, 6, 7, 8, 9, 10, 11, 12, 13, 14, 15, 16, 20, 21, 22, 23, 24, 25, 26, 27, 28, 29, 30, 31, 32, 33, 34, 35, 36, 37, 38, 39, 40, 41, 42, 43, 44, 45, 46] rfl) (X.2.2.1.sub (ws' := wX1 (aT 5) (va_up (va_up aT_5 0 (aT 2)) 1 (aT 3)) yT_5 gT_5 ++ (wX6 (aT 2) aT_2 yT_2 gT_2 ++ (wX9 (aT 3) aT_3 yT_3 gT_3 ++ (wX4 hT_8 aT_8 yT_8 gT_8 ++ (wX0 hT_10 aT_10 yT_10 gT_10))))) [17, 18, 19, 2, 3, 4, 5, 6, 7, 8, 9, 10, 11, 12, 13, 14, 15, 16, 20, 21, 22, 23, 24, 25, 26, 27, 28, 29, 30, 31, 32, 33, 34, 35, 36, 37, 38, 39, 40, 41, 42, 43, 44, 45, 46] (by decide) rfl) (free_of (wC := wX1 (aT 5) (va_up (va_up aT_5 0 (aT 2)) 1 (aT 3)) yT_5 gT_5 ++ (wX6 (aT 2) aT_2 yT_2 gT_2 ++ (wX9 (aT 3) aT_3 yT_3 gT_3 ++ (wX4 hT_8 aT_8 yT_8 gT_8 ++ (wX0 hT_10 aT_10 yT_10 gT_10))))) (isC := [17, 18, 19, 2, 3, 4, 5, 6, 7, 8, 9, 10, 11, 12, 13, 14, 15, 16, 20, 21, 22, 23, 24, 25, 26, 27, 28, 29, 30, 31, 32, 33, 34, 35, 36, 37, 38, 39, 40, 41, 42, 43, 44, 45, 46]) X rfl) hl.1 rfl rfl (Nat.le_of_ble_eq_true rfl) dX11_ask_32 hcs (fun t H1 locs1 ht hB hk hS => ?_)
    have X : Hx D (tX11 yT ++ (tTP yT_0 ++ (tX6 yT_2 ++ (tX9 yT_3 ++ (tX1 yT_5 ++ (tX4 yT_8 ++ (tX0 yT_10 ++ (tX5 yT_11 ++ (tX7 yT_11_1 ++ (tX2 yT_11_2 ++ (tX8 yT_11_3))))))))))) A s H1 locs1 (wX11 hT aT yT gT ++ (wTP (aT 0) aT_0 yT_0 gT_0 ++ (wX6 (aT 2) aT_2 yT_2 gT_2 ++ (wX9 (aT 3) aT_3 yT_3 gT_3 ++ (wX1 (aT 5) (va_up (va_up aT_5 0 (aT 2)) 1 (aT 3)) yT_5 q_4.2 ++ (wX4 hT_8 aT_8 yT_8 gT_8 ++ (wX0 hT_10 aT_10 yT_10 gT_10 ++ (wX5 hT_11 (va_up aT_11 0 (aT 0)) yT_11 gT_11 ++ (wX7 ((va_up aT_11 0 (aT 0)) 1) (va_up (va_up aT_11_1 0 (aT 0)) 1 (aT 2)) yT_11_1 gT_11_1 ++ (wX2 ((va_up aT_11 0 (aT 0)) 2) (va_up aT_11_2 0 (aT 0)) yT_11_2 gT_11_2 ++ (wX8 ((va_up aT_11 0 (aT 0)) 3) aT_11_3 yT_11_3 gT_11_3))))))))))) := Hx_after (isC := [17, 18, 19, 2, 3, 4, 5, 6, 7, 8, 9, 10, 11, 12, 13, 14, 15, 16, 20, 21, 22, 23, 24, 25, 26, 27, 28, 29, 30, 31, 32, 33, 34, 35, 36, 37, 38, 39, 40, 41, 42, 43, 44, 45, 46]) (isR := [0, 1, 47, 48, 49, 50, 51, 52, 53, 54, 55]) (pm := [0, 1, 14, 15, 16, 17, 18, 19, 20, 21, 22, 23, 24, 25, 26, 27, 28, 11, 12, 13, 29, 30, 31, 32, 33, 34, 35, 36, 37, 38, 39, 40, 41, 42, 43, 44, 45, 46, 47, 48, 49, 50, 51, 52, 53, 54, 55, 2, 3, 4, 5, 6, 7, 8, 9, 10]) (wr := wX11 hT aT yT gT ++ (wTP (aT 0) aT_0 yT_0 gT_0 ++ (wX5 hT_11 (va_up aT_11 0 (aT 0)) yT_11 gT_11 ++ (wX7 ((va_up aT_11 0 (aT 0)) 1) (va_up (va_up aT_11_1 0 (aT 0)) 1 (aT 2)) yT_11_1 gT_11_1 ++ (wX2 ((va_up aT_11 0 (aT 0)) 2) (va_up aT_11_2 0 (aT 0)) yT_11_2 gT_11_2 ++ (wX8 ((va_up aT_11 0 (aT 0)) 3) aT_11_3 yT_11_3 gT_11_3)))))) X ⟨rfl, rfl, by decide, by decide, rfl, by decide⟩ ht hB hk hS
    clear hk hS ht hB
    generalize H1 = H at X ⊢
    generalize locs1 = locs at X ⊢
    refine lv_if_ne (tgt := 49) hx hb dX11_ask_35 (by decide) (fun c => ?_) (fun c => ?_)
    · replace hF := iF c hF
      refine lv_aload_n hx hb dX11_ask_49 rfl (lv_at hl 0 rfl) ?_
      refine va_getN (D := D.1) (ci := 0) (v := .ref (aT_10 17)) (C := RX0) (T := TX0) (N := 19) hx hb hts wi_X0 hown X.1 X.2.1 31 rfl rfl 17 (by decide) (X.2.2.2.2.2.1.use q2_23 rfl) (fun _ h9 => h9) (fl_get (by decide)) dX11_ask_50 ?_
      refine lv_iconst (v := (0 : Int32)) hx hb dX11_ask_53 (by decide) ?_
      obtain ⟨h_6, hF⟩ := grd_some hF
      refine va_iald (D := D.1) (f := gIA gT_10 17) hx hb X.1 X.2.1 46 40 rfl rfl (inB_ok h_6) dX11_ask_54 ?_
      refine lv_istore_n (lv' := [(2, .int (gIA gT_10 17 (0 : Int32).toNatClampNeg)), (1, .ref hT_10), (0, .ref hT)]) hx hb dX11_ask_55 rfl hl (by decide) rfl (fun ls hl => ?_)
      refine lv_aload_n hx hb dX11_ask_56 rfl (lv_at hl 2 rfl) ?_
      refine lv_aload_n hx hb dX11_ask_57 rfl (lv_at hl 2 rfl) ?_
      refine va_get (D := D.1) (ci := 11) (v := .ref (aT 2)) (C := RX11) (T := TX11) (N := 14) hx hb hts wi_X11 hown X.1 X.2.1 0 rfl rfl 2 (by decide) (hts _ q2_149) (fun _ h9 => h9) (fl_get (by decide)) dX11_ask_58 ?_
      refine lv_iload_n hx hb dX11_ask_61 rfl (lv_at hl 0 rfl) ?_
      refine lv_aload_n hx hb dX11_ask_62 rfl (lv_at hl 2 rfl) ?_
      refine va_get (D := D.1) (ci := 11) (v := .ref (aT 5)) (C := RX11) (T := TX11) (N := 14) hx hb hts wi_X11 hown X.1 X.2.1 0 rfl rfl 5 (by decide) (hts _ q2_152) (fun _ h9 => h9) (fl_get (by decide)) dX11_ask_63 ?_
      refine va_getN (D := D.1) (ci := 1) (v := .ref ((va_up (va_up aT_5 0 (aT 2)) 1 (aT 3)) 2)) (C := RX1) (T := TX1) (N := 7) hx hb hts wi_X1 hown X.1 X.2.1 17 rfl rfl 2 (by decide) (X.2.2.2.2.2.1.use q1_140 rfl) (fun _ h9 => h9) (fl_get (by decide)) dX11_ask_66 ?_
      refine lv_iconst (v := (0 : Int32)) hx hb dX11_ask_69 (by decide) ?_
      obtain ⟨h_7, hF⟩ := grd_some hF
      refine va_lald (D := D.1) (f := gLA q_4.2 2) hx hb X.1 X.2.1 18 14 rfl rfl (inB_ok h_7) dX11_ask_70 ?_
      refine lv_aload_n hx hb dX11_ask_71 rfl (lv_at hl 2 rfl) ?_
      refine va_get (D := D.1) (ci := 11) (v := .ref (aT 5)) (C := RX11) (T := TX11) (N := 14) hx hb hts wi_X11 hown X.1 X.2.1 0 rfl rfl 5 (by decide) (hts _ q2_152) (fun _ h9 => h9) (fl_get (by decide)) dX11_ask_72 ?_
      refine va_getN (D := D.1) (ci := 1) (v := .ref ((va_up (va_up aT_5 0 (aT 2)) 1 (aT 3)) 3)) (C := RX1) (T := TX1) (N := 7) hx hb hts wi_X1 hown X.1 X.2.1 17 rfl rfl 3 (by decide) (X.2.2.2.2.2.1.use q1_142 rfl) (fun _ h9 => h9) (fl_get (by decide)) dX11_ask_75 ?_
      refine lv_iconst (v := (0 : Int32)) hx hb dX11_ask_78 (by decide) ?_
      obtain ⟨h_8, hF⟩ := grd_some hF
      refine va_dald (D := D.1) (f := gDA q_4.2 3) hx hb X.1 X.2.1 19 15 rfl rfl (inB_ok h_8) dX11_ask_79 ?_
      obtain ⟨q_9, hc_10, hF⟩ := bnd_some hF
      refine cV_l (As := [.int (gIA gT_10 17 (0 : Int32).toNatClampNeg), .long (gLA q_4.2 2 (0 : Int32).toNatClampNeg), .double (gDA q_4.2 3 (0 : Int32).toNatClampNeg)]) (rest := [.ref hT]) C X (c_X6_bitsOf l D (aT 2) aT_2 yT_2 n gT_2 (gIA gT_10 17 (0 : Int32).toNatClampNeg) (gLA q_4.2 2 (0 : Int32).toNatClampNeg) (gDA q_4.2 3 (0 : Int32).toNatClampNeg) q_9 hc_10 _) (cwV 3 hts (good_V q5_177 q5_178 q5_179 q1_2 q5_180) rfl rfl rfl (by decide +kernel) ⟨Nat.le_trans (Nat.le_of_ble_eq_true rfl) hR.1, Nat.le_trans (Nat.le_of_ble_eq_true rfl) hR.2⟩) (va_recv X.1 X.2.1 (ci := 6) (q0 := 2) rfl rfl) (X.1.sub (tys' := tX6 yT_2) [1] rfl) (X.2.1.sub (ws' := wX6 (aT 2) aT_2 yT_2 gT_2) [2, 3] rfl) (X.2.2.1.sub (ws' := wX6 (aT 2) aT_2 yT_2 gT_2) [2, 3] (by decide) rfl) (free_of (wC := wX6 (aT 2) aT_2 yT_2 gT_2) (isC := [2, 3]) X rfl) hl.1 rfl rfl (Nat.le_of_ble_eq_true rfl) dX11_ask_80 hcs (fun t H1 locs1 ht hB hk hS => ?_)
      have X : Hx D (tX11 yT ++ (tTP yT_0 ++ (tX6 yT_2 ++ (tX9 yT_3 ++ (tX1 yT_5 ++ (tX4 yT_8 ++ (tX0 yT_10 ++ (tX5 yT_11 ++ (tX7 yT_11_1 ++ (tX2 yT_11_2 ++ (tX8 yT_11_3))))))))))) A s H1 locs1 (wX11 hT aT yT gT ++ (wTP (aT 0) aT_0 yT_0 gT_0 ++ (wX6 (aT 2) aT_2 yT_2 gT_2 ++ (wX9 (aT 3) aT_3 yT_3 gT_3 ++ (wX1 (aT 5) (va_up (va_up aT_5 0 (aT 2)) 1 (aT 3)) yT_5 q_4.2 ++ (wX4 hT_8 aT_8 yT_8 gT_8 ++ (wX0 hT_10 aT_10 yT_10 gT_10 ++ (wX5 hT_11 (va_up aT_11 0 (aT 0)) yT_11 gT_11 ++ (wX7 ((va_up aT_11 0 (aT 0)) 1) (va_up (va_up aT_11_1 0 (aT 0)) 1 (aT 2)) yT_11_1 gT_11_1 ++ (wX2 ((va_up aT_11 0 (aT 0)) 2) (va_up aT_11_2 0 (aT 0)) yT_11_2 gT_11_2 ++ (wX8 ((va_up aT_11 0 (aT 0)) 3) aT_11_3 yT_11_3 gT_11_3))))))))))) := Hx_after (isC := [2, 3]) (isR := [0, 1, 4, 5, 6, 7, 8, 9, 10, 11, 12, 13, 14, 15, 16, 17, 18, 19, 20, 21, 22, 23, 24, 25, 26, 27, 28, 29, 30, 31, 32, 33, 34, 35, 36, 37, 38, 39, 40, 41, 42, 43, 44, 45, 46, 47, 48, 49, 50, 51, 52, 53, 54, 55]) (pm := [0, 1, 54, 55, 2, 3, 4, 5, 6, 7, 8, 9, 10, 11, 12, 13, 14, 15, 16, 17, 18, 19, 20, 21, 22, 23, 24, 25, 26, 27, 28, 29, 30, 31, 32, 33, 34, 35, 36, 37, 38, 39, 40, 41, 42, 43, 44, 45, 46, 47, 48, 49, 50, 51, 52, 53]) (wr := wX11 hT aT yT gT ++ (wTP (aT 0) aT_0 yT_0 gT_0 ++ (wX9 (aT 3) aT_3 yT_3 gT_3 ++ (wX1 (aT 5) (va_up (va_up aT_5 0 (aT 2)) 1 (aT 3)) yT_5 q_4.2 ++ (wX4 hT_8 aT_8 yT_8 gT_8 ++ (wX0 hT_10 aT_10 yT_10 gT_10 ++ (wX5 hT_11 (va_up aT_11 0 (aT 0)) yT_11 gT_11 ++ (wX7 ((va_up aT_11 0 (aT 0)) 1) (va_up (va_up aT_11_1 0 (aT 0)) 1 (aT 2)) yT_11_1 gT_11_1 ++ (wX2 ((va_up aT_11 0 (aT 0)) 2) (va_up aT_11_2 0 (aT 0)) yT_11_2 gT_11_2 ++ (wX8 ((va_up aT_11 0 (aT 0)) 3) aT_11_3 yT_11_3 gT_11_3)))))))))) X ⟨rfl, rfl, by decide, by decide, rfl, by decide⟩ ht hB hk hS
      clear hk hS ht hB
      generalize H1 = H at X ⊢
      generalize locs1 = locs at X ⊢
      refine va_put (D := D.1) (ci := 11) (v := .long q_9) (ty := .long) (C := RX11) (T := TX11) (N := 14) hx hb hts wi_X11 tyX11 tyX11_ok nmX11 hown X.1 X.2.1 X.2.2.1 X.2.2.2.1 0 rfl rfl 13 (by decide) (hts _ q2_160) (fun _ h9 => h9) rfl (by decide +kernel) rfl rfl (by rw [List.length_map, List.length_range]; decide) dX11_ask_83 (fun H locs hP hD hS => ?_)
      have X : Hx D (tX11 yT ++ (tTP yT_0 ++ (tX6 yT_2 ++ (tX9 yT_3 ++ (tX1 yT_5 ++ (tX4 yT_8 ++ (tX0 yT_10 ++ (tX5 yT_11 ++ (tX7 yT_11_1 ++ (tX2 yT_11_2 ++ (tX8 yT_11_3))))))))))) A s H locs (wX11 hT aT yT (sL gT 13 q_9) ++ (wTP (aT 0) aT_0 yT_0 gT_0 ++ (wX6 (aT 2) aT_2 yT_2 gT_2 ++ (wX9 (aT 3) aT_3 yT_3 gT_3 ++ (wX1 (aT 5) (va_up (va_up aT_5 0 (aT 2)) 1 (aT 3)) yT_5 q_4.2 ++ (wX4 hT_8 aT_8 yT_8 gT_8 ++ (wX0 hT_10 aT_10 yT_10 gT_10 ++ (wX5 hT_11 (va_up aT_11 0 (aT 0)) yT_11 gT_11 ++ (wX7 ((va_up aT_11 0 (aT 0)) 1) (va_up (va_up aT_11_1 0 (aT 0)) 1 (aT 2)) yT_11_1 gT_11_1 ++ (wX2 ((va_up aT_11 0 (aT 0)) 2) (va_up aT_11_2 0 (aT 0)) yT_11_2 gT_11_2 ++ (wX8 ((va_up aT_11 0 (aT 0)) 3) aT_11_3 yT_11_3 gT_11_3))))))))))) := Hx_set X (set_l (by rw [wG_len (m := 1) rfl]; decide) (wG_sL (k := 13) rfl)) hP hD hS
      refine lv_iload_n hx hb dX11_ask_86 rfl (lv_at hl 0 rfl) ?_
      have hq := Option.some.inj hF
      subst hq
      exact rt_i C X dX11_ask_87
    · replace hF := iT c hF
      refine lv_bipush (v := (8 : Int32)) hx hb dX11_ask_38 (by decide) ?_
      refine lv_aload_n hx hb dX11_ask_40 rfl (lv_at hl 1 rfl) ?_
      refine va_get (D := D.1) (ci := 11) (v := .ref (aT 5)) (C := RX11) (T := TX11) (N := 14) hx hb hts wi_X11 hown X.1 X.2.1 0 rfl rfl 5 (by decide) (hts _ q2_152) (fun _ h9 => h9) (fl_get (by decide)) dX11_ask_41 ?_
      refine va_getN (D := D.1) (ci := 1) (v := .int (gI q_4.2 5)) (C := RX1) (T := TX1) (N := 7) hx hb hts wi_X1 hown X.1 X.2.1 17 rfl rfl 5 (by decide) (X.2.2.2.2.2.1.use q1_145 rfl) (fun _ h9 => h9) (fl_get (by decide)) dX11_ask_44 ?_
      refine lv_iadd hx hb dX11_ask_47 ?_
      have hq := Option.some.inj hF
      subst hq
      exact rt_i C X dX11_ask_48
  · replace hF := iF c hF
    refine lv_iconst (v := (-1 : Int32)) hx hb dX11_ask_12 (by decide) ?_
    refine lv_aload_n hx hb dX11_ask_13 rfl (lv_at hl 1 rfl) ?_
    obtain ⟨q_11, hc_12, hF⟩ := bnd_some hF
    refine cV_r (As := []) (rest := [.int (-1 : Int32)]) C X (c_X11_readerOfTape l D hT aT yT hT_11 (va_up aT_11 0 (aT 0)) yT_11 gT gT_11 q_11 hc_12 _) (cwV 0 hts (good_V q2_206 q2_208 q0_1 q1_1 q2_209) rfl rfl rfl (by decide +kernel) ⟨Nat.le_trans (Nat.le_of_ble_eq_true rfl) hR.1, Nat.le_trans (Nat.le_of_ble_eq_true rfl) hR.2⟩) (va_recv X.1 X.2.1 (ci := 11) (q0 := 0) rfl rfl) (X.1.sub (tys' := tX11 yT ++ (tX5 yT_11)) [41, 42, 43, 44] rfl) (X.2.1.sub (ws' := wX11 hT aT yT gT ++ (wX5 hT_11 (va_up aT_11 0 (aT 0)) yT_11 gT_11)) [0, 47, 48, 49, 50, 51] rfl) (X.2.2.1.sub (ws' := wX11 hT aT yT gT ++ (wX5 hT_11 (va_up aT_11 0 (aT 0)) yT_11 gT_11)) [0, 47, 48, 49, 50, 51] (by decide) rfl) (free_of (wC := wX11 hT aT yT gT ++ (wX5 hT_11 (va_up aT_11 0 (aT 0)) yT_11 gT_11)) (isC := [0, 47, 48, 49, 50, 51]) X rfl) hl.1 rfl rfl (Nat.le_of_ble_eq_true rfl) dX11_ask_14 hcs (fun t H1 locs1 ht hB hk hS => ?_)
    have X : Hx D (tX11 yT ++ (tTP yT_0 ++ (tX6 yT_2 ++ (tX9 yT_3 ++ (tX1 yT_5 ++ (tX4 yT_8 ++ (tX0 yT_10 ++ (tX5 yT_11 ++ (tX7 yT_11_1 ++ (tX2 yT_11_2 ++ (tX8 yT_11_3))))))))))) A s H1 locs1 (wX11 hT aT yT gT ++ (wTP (aT 0) aT_0 yT_0 gT_0 ++ (wX6 (aT 2) aT_2 yT_2 gT_2 ++ (wX9 (aT 3) aT_3 yT_3 gT_3 ++ (wX1 (aT 5) (va_up (va_up aT_5 0 (aT 2)) 1 (aT 3)) yT_5 gT_5 ++ (wX4 hT_8 aT_8 yT_8 gT_8 ++ (wX0 hT_10 aT_10 yT_10 gT_10 ++ (wX5 hT_11 (va_up aT_11 0 (aT 0)) yT_11 gT_11 ++ (wX7 ((va_up aT_11 0 (aT 0)) 1) (va_up (va_up aT_11_1 0 (aT 0)) 1 (aT 2)) yT_11_1 gT_11_1 ++ (wX2 ((va_up aT_11 0 (aT 0)) 2) (va_up aT_11_2 0 (aT 0)) yT_11_2 gT_11_2 ++ (wX8 ((va_up aT_11 0 (aT 0)) 3) aT_11_3 yT_11_3 gT_11_3))))))))))) := Hx_after (isC := [0, 47, 48, 49, 50, 51]) (isR := [1, 2, 3, 4, 5, 6, 7, 8, 9, 10, 11, 12, 13, 14, 15, 16, 17, 18, 19, 20, 21, 22, 23, 24, 25, 26, 27, 28, 29, 30, 31, 32, 33, 34, 35, 36, 37, 38, 39, 40, 41, 42, 43, 44, 45, 46, 52, 53, 54, 55]) (pm := [50, 0, 1, 2, 3, 4, 5, 6, 7, 8, 9, 10, 11, 12, 13, 14, 15, 16, 17, 18, 19, 20, 21, 22, 23, 24, 25, 26, 27, 28, 29, 30, 31, 32, 33, 34, 35, 36, 37, 38, 39, 40, 41, 42, 43, 44, 45, 51, 52, 53, 54, 55, 46, 47, 48, 49]) (wr := wTP (aT 0) aT_0 yT_0 gT_0 ++ (wX6 (aT 2) aT_2 yT_2 gT_2 ++ (wX9 (aT 3) aT_3 yT_3 gT_3 ++ (wX1 (aT 5) (va_up (va_up aT_5 0 (aT 2)) 1 (aT 3)) yT_5 gT_5 ++ (wX4 hT_8 aT_8 yT_8 gT_8 ++ (wX0 hT_10 aT_10 yT_10 gT_10 ++ (wX7 ((va_up aT_11 0 (aT 0)) 1) (va_up (va_up aT_11_1 0 (aT 0)) 1 (aT 2)) yT_11_1 gT_11_1 ++ (wX2 ((va_up aT_11 0 (aT 0)) 2) (va_up aT_11_2 0 (aT 0)) yT_11_2 gT_11_2 ++ (wX8 ((va_up aT_11 0 (aT 0)) 3) aT_11_3 yT_11_3 gT_11_3))))))))) X ⟨rfl, rfl, by decide, by decide, rfl, by decide⟩ ht hB hk hS
    clear hk hS ht hB
    generalize H1 = H at X ⊢
    generalize locs1 = locs at X ⊢
    refine va_getN (D := D.1) (ci := 5) (v := .int (gI gT_11 17)) (C := RX5) (T := TX5) (N := 18) hx hb hts wi_X5 hown X.1 X.2.1 47 rfl rfl 17 (by decide) (X.2.2.2.2.2.1.use q3_69 rfl) (fun _ h9 => h9) (fl_get (by decide)) dX11_ask_17 ?_
    refine lv_isub hx hb dX11_ask_20 ?_
    have hq := Option.some.inj hF
    subst hq
    exact rt_i C X dX11_ask_21
set_option maxHeartbeats 4000000 in
set_option maxRecDepth 100000 in
theorem c_X11_ask (l : Launch) (D : Dx) (hT : Nat) (aT : Nat → Nat) (yT : Nat → ClassId) (aT_0 : Nat → Nat) (yT_0 : Nat → ClassId) (aT_2 : Nat → Nat) (yT_2 : Nat → ClassId) (aT_3 : Nat → Nat) (yT_3 : Nat → ClassId) (aT_5 : Nat → Nat) (yT_5 : Nat → ClassId) (hT_8 : Nat) (aT_8 : Nat → Nat) (yT_8 : Nat → ClassId) (hT_10 : Nat) (aT_10 : Nat → Nat) (yT_10 : Nat → ClassId) (hT_11 : Nat) (aT_11 : Nat → Nat) (yT_11 : Nat → ClassId) (aT_11_1 : Nat → Nat) (yT_11_1 : Nat → ClassId) (aT_11_2 : Nat → Nat) (yT_11_2 : Nat → ClassId) (aT_11_3 : Nat → Nat) (yT_11_3 : Nat → ClassId) (n : Nat) (gT : Gs) (gT_0 : Gs) (gT_2 : Gs) (gT_3 : Gs) (gT_5 : Gs) (gT_8 : Gs) (gT_10 : Gs) (gT_11 : Gs) (gT_11_1 : Gs) (gT_11_2 : Gs) (gT_11_3 : Gs) (q : Int32 × Gs × Gs × Gs × Gs × Gs × Gs × Gs) (hF : f_X11_ask n hT_8 hT_10 hT_11 gT gT_0 gT_2 gT_3 gT_5 gT_8 gT_10 gT_11 gT_11_1 gT_11_2 gT_11_3 = some q) (sz : Nat) : Met l yX11_ask (ws_ yX11_ask cX11_ask 3 (some .int)) R_X11_ask (PC D (tX11 yT ++ (tTP yT_0 ++ (tX6 yT_2 ++ (tX9 yT_3 ++ (tX1 yT_5 ++ (tX4 yT_8 ++ (tX0 yT_10 ++ (tX5 yT_11 ++ (tX7 yT_11_1 ++ (tX2 yT_11_2 ++ (tX8 yT_11_3))))))))))) [.ref hT] (wX11 hT aT yT gT ++ (wTP (aT 0) aT_0 yT_0 gT_0 ++ (wX6 (aT 2) aT_2 yT_2 gT_2 ++ (wX9 (aT 3) aT_3 yT_3 gT_3 ++ (wX1 (aT 5) (va_up (va_up aT_5 0 (aT 2)) 1 (aT 3)) yT_5 gT_5 ++ (wX4 hT_8 aT_8 yT_8 gT_8 ++ (wX0 hT_10 aT_10 yT_10 gT_10 ++ (wX5 hT_11 (va_up aT_11 0 (aT 0)) yT_11 gT_11 ++ (wX7 ((va_up aT_11 0 (aT 0)) 1) (va_up (va_up aT_11_1 0 (aT 0)) 1 (aT 2)) yT_11_1 gT_11_1 ++ (wX2 ((va_up aT_11 0 (aT 0)) 2) (va_up aT_11_2 0 (aT 0)) yT_11_2 gT_11_2 ++ (wX8 ((va_up aT_11 0 (aT 0)) 3) aT_11_3 yT_11_3 gT_11_3))))))))))) sz) (QI D (va_A (wX11 hT aT yT gT ++ (wTP (aT 0) aT_0 yT_0 gT_0 ++ (wX6 (aT 2) aT_2 yT_2 gT_2 ++ (wX9 (aT 3) aT_3 yT_3 gT_3 ++ (wX1 (aT 5) (va_up (va_up aT_5 0 (aT 2)) 1 (aT 3)) yT_5 gT_5 ++ (wX4 hT_8 aT_8 yT_8 gT_8 ++ (wX0 hT_10 aT_10 yT_10 gT_10 ++ (wX5 hT_11 (va_up aT_11 0 (aT 0)) yT_11 gT_11 ++ (wX7 ((va_up aT_11 0 (aT 0)) 1) (va_up (va_up aT_11_1 0 (aT 0)) 1 (aT 2)) yT_11_1 gT_11_1 ++ (wX2 ((va_up aT_11 0 (aT 0)) 2) (va_up aT_11_2 0 (aT 0)) yT_11_2 gT_11_2 ++ (wX8 ((va_up aT_11 0 (aT 0)) 3) aT_11_3 yT_11_3 gT_11_3))))))))))) sz) (wX11 hT aT yT q.2.1 ++ (wTP (aT 0) aT_0 yT_0 gT_0 ++ (wX6 (aT 2) aT_2 yT_2 gT_2 ++ (wX9 (aT 3) aT_3 yT_3 gT_3 ++ (wX1 (aT 5) (va_up (va_up aT_5 0 (aT 2)) 1 (aT 3)) yT_5 q.2.2.1 ++ (wX4 hT_8 aT_8 yT_8 gT_8 ++ (wX0 hT_10 aT_10 yT_10 q.2.2.2.1 ++ (wX5 hT_11 (va_up aT_11 0 (aT 0)) yT_11 q.2.2.2.2.1 ++ (wX7 ((va_up aT_11 0 (aT 0)) 1) (va_up (va_up aT_11_1 0 (aT 0)) 1 (aT 2)) yT_11_1 q.2.2.2.2.2.1 ++ (wX2 ((va_up aT_11 0 (aT 0)) 2) (va_up aT_11_2 0 (aT 0)) yT_11_2 q.2.2.2.2.2.2.1 ++ (wX8 ((va_up aT_11 0 (aT 0)) 3) aT_11_3 yT_11_3 q.2.2.2.2.2.2.2))))))))))) q.1) 0 0 (va_A (wX11 hT aT yT gT ++ (wTP (aT 0) aT_0 yT_0 gT_0 ++ (wX6 (aT 2) aT_2 yT_2 gT_2 ++ (wX9 (aT 3) aT_3 yT_3 gT_3 ++ (wX1 (aT 5) (va_up (va_up aT_5 0 (aT 2)) 1 (aT 3)) yT_5 gT_5 ++ (wX4 hT_8 aT_8 yT_8 gT_8 ++ (wX0 hT_10 aT_10 yT_10 gT_10 ++ (wX5 hT_11 (va_up aT_11 0 (aT 0)) yT_11 gT_11 ++ (wX7 ((va_up aT_11 0 (aT 0)) 1) (va_up (va_up aT_11_1 0 (aT 0)) 1 (aT 2)) yT_11_1 gT_11_1 ++ (wX2 ((va_up aT_11 0 (aT 0)) 2) (va_up aT_11_2 0 (aT 0)) yT_11_2 gT_11_2 ++ (wX8 ((va_up aT_11 0 (aT 0)) 3) aT_11_3 yT_11_3 gT_11_3))))))))))) sz) := by
  refine Met.ofW (cc := cX11_ask) (maxL := 3) (ret := (some .int)) (by decide) rfl ?_
  intro p e s m args below meth c s₁ B hml hv
  obtain ⟨rfl, hsz, hP, hK, hD, hN⟩ := hv
  subst hsz
  have C : Cx p s m _ meth c cX11_ask (some .int) 3 RX11 lw_all := Cx_of B hml
  have X := Hx_start hP hK hD hN
  obtain ⟨hx, hb, hr, -, hown, hts, hlk⟩ := id C
  generalize va_A (wX11 hT aT yT gT ++ (wTP (aT 0) aT_0 yT_0 gT_0 ++ (wX6 (aT 2) aT_2 yT_2 gT_2 ++ (wX9 (aT 3) aT_3 yT_3 gT_3 ++ (wX1 (aT 5) (va_up (va_up aT_5 0 (aT 2)) 1 (aT 3)) yT_5 gT_5 ++ (wX4 hT_8 aT_8 yT_8 gT_8 ++ (wX0 hT_10 aT_10 yT_10 gT_10 ++ (wX5 hT_11 (va_up aT_11 0 (aT 0)) yT_11 gT_11 ++ (wX7 ((va_up aT_11 0 (aT 0)) 1) (va_up (va_up aT_11_1 0 (aT 0)) 1 (aT 2)) yT_11_1 gT_11_1 ++ (wX2 ((va_up aT_11 0 (aT 0)) 2) (va_up aT_11_2 0 (aT 0)) yT_11_2 gT_11_2 ++ (wX8 ((va_up aT_11 0 (aT 0)) 3) aT_11_3 yT_11_3 gT_11_3))))))))))) s.heap.size = A at X ⊢
  have hl := lv_entry ([.ref hT]) (n := 3) (Nat.le_of_ble_eq_true rfl)
  rw [lg_entry_eq]
  generalize (lg_sl ([.ref hT]) ++ List.replicate (3 - (lg_sl ([.ref hT])).length) Slot.unset).toArray = ls at hl ⊢
  have hl : lv_has ls 3 [(0, .ref hT)] := hl
  have hR : 10 ≤ R_X11_ask.frames ∧ 246 ≤ R_X11_ask.locals := ⟨Nat.le_of_ble_eq_true rfl, Nat.le_of_ble_eq_true rfl⟩
  have hcs : 0 ≤ R_X11_ask.cells ∧ 0 ≤ R_X11_ask.slots := ⟨Nat.le_of_ble_eq_true rfl, Nat.le_of_ble_eq_true rfl⟩
  unfold f_X11_ask at hF
  refine lv_aload_n hx hb dX11_ask_0 rfl (lv_at hl 0 rfl) ?_
  obtain ⟨q_1, hc_2, hF⟩ := bnd_some hF
  refine cV_r (As := []) (rest := []) C X (c_X11_readAsked l D hT aT yT aT_0 yT_0 aT_2 yT_2 hT_8 aT_8 yT_8 hT_10 aT_10 yT_10 hT_11 (va_up aT_11 0 (aT 0)) yT_11 (va_up (va_up aT_11_1 0 (aT 0)) 1 (aT 2)) yT_11_1 (va_up aT_11_2 0 (aT 0)) yT_11_2 aT_11_3 yT_11_3 n gT gT_0 gT_2 gT_8 gT_10 gT_11 gT_11_1 gT_11_2 gT_11_3 q_1 hc_2 _) (cwV 0 hts (good_V q6_18 q6_20 q0_62 q1_1 q6_21) rfl rfl rfl (by decide +kernel) ⟨Nat.le_trans (Nat.le_of_ble_eq_true rfl) hR.1, Nat.le_trans (Nat.le_of_ble_eq_true rfl) hR.2⟩) (va_recv X.1 X.2.1 (ci := 11) (q0 := 0) rfl rfl) (X.1.sub (tys' := tX11 yT ++ (tTP yT_0 ++ (tX6 yT_2 ++ (tX4 yT_8 ++ (tX0 yT_10 ++ (tX5 yT_11 ++ (tX7 yT_11_1 ++ (tX2 yT_11_2 ++ (tX8 yT_11_3))))))))) [0, 1, 16, 17, 18, 19, 20, 21, 22, 23, 24, 25, 26, 27, 28, 29, 30, 31, 32, 33, 34, 35, 36, 37, 38, 39, 40, 41, 42, 43, 44, 45] rfl) (X.2.1.sub (ws' := wX11 hT aT yT gT ++ (wTP (aT 0) aT_0 yT_0 gT_0 ++ (wX6 (aT 2) aT_2 yT_2 gT_2 ++ (wX4 hT_8 aT_8 yT_8 gT_8 ++ (wX0 hT_10 aT_10 yT_10 gT_10 ++ (wX5 hT_11 (va_up aT_11 0 (aT 0)) yT_11 gT_11 ++ (wX7 ((va_up aT_11 0 (aT 0)) 1) (va_up (va_up aT_11_1 0 (aT 0)) 1 (aT 2)) yT_11_1 gT_11_1 ++ (wX2 ((va_up aT_11 0 (aT 0)) 2) (va_up aT_11_2 0 (aT 0)) yT_11_2 gT_11_2 ++ (wX8 ((va_up aT_11 0 (aT 0)) 3) aT_11_3 yT_11_3 gT_11_3))))))))) [0, 1, 2, 3, 20, 21, 22, 23, 24, 25, 26, 27, 28, 29, 30, 31, 32, 33, 34, 35, 36, 37, 38, 39, 40, 41, 42, 43, 44, 45, 46, 47, 48, 49, 50, 51, 52, 53, 54, 55] rfl) (X.2.2.1.sub (ws' := wX11 hT aT yT gT ++ (wTP (aT 0) aT_0 yT_0 gT_0 ++ (wX6 (aT 2) aT_2 yT_2 gT_2 ++ (wX4 hT_8 aT_8 yT_8 gT_8 ++ (wX0 hT_10 aT_10 yT_10 gT_10 ++ (wX5 hT_11 (va_up aT_11 0 (aT 0)) yT_11 gT_11 ++ (wX7 ((va_up aT_11 0 (aT 0)) 1) (va_up (va_up aT_11_1 0 (aT 0)) 1 (aT 2)) yT_11_1 gT_11_1 ++ (wX2 ((va_up aT_11 0 (aT 0)) 2) (va_up aT_11_2 0 (aT 0)) yT_11_2 gT_11_2 ++ (wX8 ((va_up aT_11 0 (aT 0)) 3) aT_11_3 yT_11_3 gT_11_3))))))))) [0, 1, 2, 3, 20, 21, 22, 23, 24, 25, 26, 27, 28, 29, 30, 31, 32, 33, 34, 35, 36, 37, 38, 39, 40, 41, 42, 43, 44, 45, 46, 47, 48, 49, 50, 51, 52, 53, 54, 55] (by decide) rfl) (free_of (wC := wX11 hT aT yT gT ++ (wTP (aT 0) aT_0 yT_0 gT_0 ++ (wX6 (aT 2) aT_2 yT_2 gT_2 ++ (wX4 hT_8 aT_8 yT_8 gT_8 ++ (wX0 hT_10 aT_10 yT_10 gT_10 ++ (wX5 hT_11 (va_up aT_11 0 (aT 0)) yT_11 gT_11 ++ (wX7 ((va_up aT_11 0 (aT 0)) 1) (va_up (va_up aT_11_1 0 (aT 0)) 1 (aT 2)) yT_11_1 gT_11_1 ++ (wX2 ((va_up aT_11 0 (aT 0)) 2) (va_up aT_11_2 0 (aT 0)) yT_11_2 gT_11_2 ++ (wX8 ((va_up aT_11 0 (aT 0)) 3) aT_11_3 yT_11_3 gT_11_3))))))))) (isC := [0, 1, 2, 3, 20, 21, 22, 23, 24, 25, 26, 27, 28, 29, 30, 31, 32, 33, 34, 35, 36, 37, 38, 39, 40, 41, 42, 43, 44, 45, 46, 47, 48, 49, 50, 51, 52, 53, 54, 55]) X rfl) hl.1 rfl rfl (Nat.le_of_ble_eq_true rfl) dX11_ask_1 hcs (fun t H1 locs1 ht hB hk hS => ?_)
  have X : Hx D (tX11 yT ++ (tTP yT_0 ++ (tX6 yT_2 ++ (tX9 yT_3 ++ (tX1 yT_5 ++ (tX4 yT_8 ++ (tX0 yT_10 ++ (tX5 yT_11 ++ (tX7 yT_11_1 ++ (tX2 yT_11_2 ++ (tX8 yT_11_3))))))))))) A s H1 locs1 (wX11 hT aT yT q_1.1 ++ (wTP (aT 0) aT_0 yT_0 gT_0 ++ (wX6 (aT 2) aT_2 yT_2 gT_2 ++ (wX9 (aT 3) aT_3 yT_3 gT_3 ++ (wX1 (aT 5) (va_up (va_up aT_5 0 (aT 2)) 1 (aT 3)) yT_5 gT_5 ++ (wX4 hT_8 aT_8 yT_8 gT_8 ++ (wX0 hT_10 aT_10 yT_10 q_1.2.1 ++ (wX5 hT_11 (va_up aT_11 0 (aT 0)) yT_11 q_1.2.2.1 ++ (wX7 ((va_up aT_11 0 (aT 0)) 1) (va_up (va_up aT_11_1 0 (aT 0)) 1 (aT 2)) yT_11_1 q_1.2.2.2.1 ++ (wX2 ((va_up aT_11 0 (aT 0)) 2) (va_up aT_11_2 0 (aT 0)) yT_11_2 q_1.2.2.2.2.1 ++ (wX8 ((va_up aT_11 0 (aT 0)) 3) aT_11_3 yT_11_3 q_1.2.2.2.2.2))))))))))) := Hx_after (isC := [0, 1, 2, 3, 20, 21, 22, 23, 24, 25, 26, 27, 28, 29, 30, 31, 32, 33, 34, 35, 36, 37, 38, 39, 40, 41, 42, 43, 44, 45, 46, 47, 48, 49, 50, 51, 52, 53, 54, 55]) (isR := [4, 5, 6, 7, 8, 9, 10, 11, 12, 13, 14, 15, 16, 17, 18, 19]) (pm := [16, 17, 18, 19, 0, 1, 2, 3, 4, 5, 6, 7, 8, 9, 10, 11, 12, 13, 14, 15, 20, 21, 22, 23, 24, 25, 26, 27, 28, 29, 30, 31, 32, 33, 34, 35, 36, 37, 38, 39, 40, 41, 42, 43, 44, 45, 46, 47, 48, 49, 50, 51, 52, 53, 54, 55]) (wr := wX9 (aT 3) aT_3 yT_3 gT_3 ++ (wX1 (aT 5) (va_up (va_up aT_5 0 (aT 2)) 1 (aT 3)) yT_5 gT_5)) X ⟨rfl, rfl, by decide, by decide, rfl, by decide⟩ ht hB hk hS
  clear hk hS ht hB
  generalize H1 = H at X ⊢
  generalize locs1 = locs at X ⊢
  exact (k_X11_ask_4 l D hT aT yT aT_0 yT_0 aT_2 yT_2 aT_3 yT_3 aT_5 yT_5 hT_8 aT_8 yT_8 hT_10 aT_10 yT_10 hT_11 aT_11 yT_11 aT_11_1 yT_11_1 aT_11_2 yT_11_2 aT_11_3 yT_11_3 n) hR hcs C X (lv_sub hl [0] rfl) hF

/-! ### X11_await -/
theorem dX11_await_0 : decode cX11_await 0 = .ok (.iload_n 1, 1) := by decide +kernel
theorem dX11_await_1 : decode cX11_await 1 = .ok (.ifCond .lt 10, 3) := by decide +kernel
theorem dX11_await_4 : decode cX11_await 4 = .ok (.iload_n 1, 1) := by decide +kernel
theorem dX11_await_5 : decode cX11_await 5 = .ok (.sipush 500, 3) := by decide +kernel
theorem dX11_await_8 : decode cX11_await 8 = .ok (.if_icmp .le 10, 3) := by decide +kernel
theorem dX11_await_11 : decode cX11_await 11 = .ok (.aload_n 0, 1) := by decide +kernel
theorem dX11_await_12 : decode cX11_await 12 = .ok (.iconst 0, 1) := by decide +kernel
theorem dX11_await_13 : decode cX11_await 13 = .ok (.putfield 13, 3) := by decide +kernel
theorem dX11_await_16 : decode cX11_await 16 = .ok (.iconst (-1), 1) := by decide +kernel
theorem dX11_await_17 : decode cX11_await 17 = .ok (.ireturn, 1) := by decide +kernel
theorem dX11_await_18 : decode cX11_await 18 = .ok (.aload_n 0, 1) := by decide +kernel
theorem dX11_await_19 : decode cX11_await 19 = .ok (.invokevirtual 243, 3) := by decide +kernel
theorem dX11_await_22 : decode cX11_await 22 = .ok (.astore_n 2, 1) := by decide +kernel
theorem dX11_await_23 : decode cX11_await 23 = .ok (.aload_n 0, 1) := by decide +kernel
theorem dX11_await_24 : decode cX11_await 24 = .ok (.getfield 78, 3) := by decide +kernel
theorem dX11_await_27 : decode cX11_await 27 = .ok (.ifCond .ne 17, 3) := by decide +kernel
theorem dX11_await_30 : decode cX11_await 30 = .ok (.aload_n 2, 1) := by decide +kernel
theorem dX11_await_31 : decode cX11_await 31 = .ok (.getfield 254, 3) := by decide +kernel
theorem dX11_await_34 : decode cX11_await 34 = .ok (.iconst 0, 1) := by decide +kernel
theorem dX11_await_35 : decode cX11_await 35 = .ok (.iaload, 1) := by decide +kernel
theorem dX11_await_36 : decode cX11_await 36 = .ok (.ifCond .eq 8, 3) := by decide +kernel
theorem dX11_await_39 : decode cX11_await 39 = .ok (.aload_n 0, 1) := by decide +kernel
theorem dX11_await_40 : decode cX11_await 40 = .ok (.iconst 4, 1) := by decide +kernel
theorem dX11_await_41 : decode cX11_await 41 = .ok (.putfield 78, 3) := by decide +kernel
theorem dX11_await_44 : decode cX11_await 44 = .ok (.aload_n 0, 1) := by decide +kernel
theorem dX11_await_45 : decode cX11_await 45 = .ok (.getfield 78, 3) := by decide +kernel
theorem dX11_await_48 : decode cX11_await 48 = .ok (.ifCond .eq 5, 3) := by decide +kernel
theorem dX11_await_51 : decode cX11_await 51 = .ok (.iconst (-1), 1) := by decide +kernel
theorem dX11_await_52 : decode cX11_await 52 = .ok (.ireturn, 1) := by decide +kernel
theorem dX11_await_53 : decode cX11_await 53 = .ok (.iconst 0, 1) := by decide +kernel
theorem dX11_await_54 : decode cX11_await 54 = .ok (.istore_n 3, 1) := by decide +kernel
theorem dX11_await_55 : decode cX11_await 55 = .ok (.iload_n 3, 1) := by decide +kernel
theorem dX11_await_56 : decode cX11_await 56 = .ok (.iload_n 1, 1) := by decide +kernel
theorem dX11_await_57 : decode cX11_await 57 = .ok (.if_icmp .gt 60, 3) := by decide +kernel
theorem dX11_await_60 : decode cX11_await 60 = .ok (.aload_n 0, 1) := by decide +kernel
theorem dX11_await_61 : decode cX11_await 61 = .ok (.getfield 40, 3) := by decide +kernel
theorem dX11_await_64 : decode cX11_await 64 = .ok (.aload_n 0, 1) := by decide +kernel
theorem dX11_await_65 : decode cX11_await 65 = .ok (.getfield 63, 3) := by decide +kernel
theorem dX11_await_68 : decode cX11_await 68 = .ok (.aload_n 2, 1) := by decide +kernel
theorem dX11_await_69 : decode cX11_await 69 = .ok (.iconst 0, 1) := by decide +kernel
theorem dX11_await_70 : decode cX11_await 70 = .ok (.invokevirtual 247, 3) := by decide +kernel
theorem dX11_await_73 : decode cX11_await 73 = .ok (.ifCond .ne 6, 3) := by decide +kernel
theorem dX11_await_76 : decode cX11_await 76 = .ok (.bipush (-3), 2) := by decide +kernel
theorem dX11_await_78 : decode cX11_await 78 = .ok (.ireturn, 1) := by decide +kernel
theorem dX11_await_79 : decode cX11_await 79 = .ok (.aload_n 0, 1) := by decide +kernel
theorem dX11_await_80 : decode cX11_await 80 = .ok (.getfield 40, 3) := by decide +kernel
theorem dX11_await_83 : decode cX11_await 83 = .ok (.getfield 257, 3) := by decide +kernel
theorem dX11_await_86 : decode cX11_await 86 = .ok (.iconst 0, 1) := by decide +kernel
theorem dX11_await_87 : decode cX11_await 87 = .ok (.laload, 1) := by decide +kernel
theorem dX11_await_88 : decode cX11_await 88 = .ok (.lconst 0, 1) := by decide +kernel
theorem dX11_await_89 : decode cX11_await 89 = .ok (.lcmp, 1) := by decide +kernel
theorem dX11_await_90 : decode cX11_await 90 = .ok (.ifCond .eq 5, 3) := by decide +kernel
theorem dX11_await_93 : decode cX11_await 93 = .ok (.iload_n 3, 1) := by decide +kernel
theorem dX11_await_94 : decode cX11_await 94 = .ok (.ireturn, 1) := by decide +kernel
theorem dX11_await_95 : decode cX11_await 95 = .ok (.iload_n 3, 1) := by decide +kernel
theorem dX11_await_96 : decode cX11_await 96 = .ok (.iload_n 1, 1) := by decide +kernel
theorem dX11_await_97 : decode cX11_await 97 = .ok (.if_icmp .ge 14, 3) := by decide +kernel
theorem dX11_await_100 : decode cX11_await 100 = .ok (.aload_n 0, 1) := by decide +kernel
theorem dX11_await_101 : decode cX11_await 101 = .ok (.getfield 40, 3) := by decide +kernel
theorem dX11_await_104 : decode cX11_await 104 = .ok (.aload_n 0, 1) := by decide +kernel
theorem dX11_await_105 : decode cX11_await 105 = .ok (.getfield 63, 3) := by decide +kernel
theorem dX11_await_108 : decode cX11_await 108 = .ok (.invokevirtual 226, 3) := by decide +kernel
theorem dX11_await_111 : decode cX11_await 111 = .ok (.iinc 3 1, 3) := by decide +kernel
theorem dX11_await_114 : decode cX11_await 114 = .ok (.goto (-59), 3) := by decide +kernel
theorem dX11_await_117 : decode cX11_await 117 = .ok (.bipush (-2), 2) := by decide +kernel
theorem dX11_await_119 : decode cX11_await 119 = .ok (.ireturn, 1) := by decide +kernel
abbrev R_X11_await : Room := ({ frames := 10, cells := 0, slots := 0, locals := 246 } : Room)
def b_X11_await_11 (n : Nat) (hT_8 : Nat) (hT_10 : Nat) (hT_11 : Nat) (rec : (Gs → Gs → Gs → Gs → Gs → Gs → Gs → Gs → Gs → Gs → Gs → Gs → Int32 → Int32 → Option (Int32 × Gs × Gs × Gs × Gs × Gs × Gs × Gs × Gs))) (gT : Gs) (gT_0 : Gs) (gT_2 : Gs) (gT_3 : Gs) (gT_5 : Gs) (gT_8 : Gs) (gT_8_0 : Gs) (gT_10 : Gs) (gT_11 : Gs) (gT_11_1 : Gs) (gT_11_2 : Gs) (gT_11_3 : Gs) : Option (Int32 × Gs × Gs × Gs × Gs × Gs × Gs × Gs × Gs) :=
  some ((-1 : Int32), (sI gT 1 (0 : Int32)), gT_3, gT_5, gT_10, gT_11, gT_11_1, gT_11_2, gT_11_3)
def b_X11_await_111 (n : Nat) (hT_8 : Nat) (hT_10 : Nat) (hT_11 : Nat) (rec : (Gs → Gs → Gs → Gs → Gs → Gs → Gs → Gs → Gs → Gs → Gs → Gs → Int32 → Int32 → Option (Int32 × Gs × Gs × Gs × Gs × Gs × Gs × Gs × Gs))) (gT : Gs) (gT_0 : Gs) (gT_2 : Gs) (gT_3 : Gs) (gT_5 : Gs) (gT_8 : Gs) (gT_8_0 : Gs) (gT_10 : Gs) (gT_11 : Gs) (gT_11_1 : Gs) (gT_11_2 : Gs) (gT_11_3 : Gs) (v1 : Int32) (v3 : Int32) : Option (Int32 × Gs × Gs × Gs × Gs × Gs × Gs × Gs × Gs) :=
  rec gT gT_0 gT_2 gT_3 gT_5 gT_8 gT_8_0 gT_10 gT_11 gT_11_1 gT_11_2 gT_11_3 v1 (v3 + (1 : Int32))
def h_X11_await_55 (n : Nat) (hT_8 : Nat) (hT_10 : Nat) (hT_11 : Nat) (rec : (Gs → Gs → Gs → Gs → Gs → Gs → Gs → Gs → Gs → Gs → Gs → Gs → Int32 → Int32 → Option (Int32 × Gs × Gs × Gs × Gs × Gs × Gs × Gs × Gs))) (gT : Gs) (gT_0 : Gs) (gT_2 : Gs) (gT_3 : Gs) (gT_5 : Gs) (gT_8 : Gs) (gT_8_0 : Gs) (gT_10 : Gs) (gT_11 : Gs) (gT_11_1 : Gs) (gT_11_2 : Gs) (gT_11_3 : Gs) (v1 : Int32) (v3 : Int32) : Option (Int32 × Gs × Gs × Gs × Gs × Gs × Gs × Gs × Gs) :=
  if v1 < v3 then (some ((-2 : Int32), gT, gT_3, gT_5, gT_10, gT_11, gT_11_1, gT_11_2, gT_11_3)) else (grd (rEq (gR gT 8) hT_8) (bnd (f_X1_run n gT_5 gT_2 gT_3 gT_8 gT_10 (0 : Int32)) (fun q_4 => if q_4.1 = 0 then (some ((-3 : Int32), gT, gT_3, q_4.2, gT_10, gT_11, gT_11_1, gT_11_2, gT_11_3)) else (grd (inB (0 : Int32) 512) (if (gLA q_4.2 2 (0 : Int32).toNatClampNeg) = (0 : Int64) then (if v1 ≤ v3 then (b_X11_await_111 n hT_8 hT_10 hT_11 rec gT gT_0 gT_2 gT_3 q_4.2 gT_8 gT_8_0 gT_10 gT_11 gT_11_1 gT_11_2 gT_11_3 v1 v3) else (grd (rEq (gR gT 8) hT_8) (bnd (f_X1_turn n q_4.2 gT_2 gT_3 gT_8 gT_8_0) (fun q_8 => b_X11_await_111 n hT_8 hT_10 hT_11 rec gT gT_0 gT_2 q_8.2 q_8.1 gT_8 gT_8_0 gT_10 gT_11 gT_11_1 gT_11_2 gT_11_3 v1 v3)))) else (some (v3, gT, gT_3, q_4.2, gT_10, gT_11, gT_11_1, gT_11_2, gT_11_3)))))))
def b_X11_await_44 (n : Nat) (hT_8 : Nat) (hT_10 : Nat) (hT_11 : Nat) (rec : (Gs → Gs → Gs → Gs → Gs → Gs → Gs → Gs → Gs → Gs → Gs → Gs → Int32 → Int32 → Option (Int32 × Gs × Gs × Gs × Gs × Gs × Gs × Gs × Gs))) (gT : Gs) (gT_0 : Gs) (gT_2 : Gs) (gT_3 : Gs) (gT_5 : Gs) (gT_8 : Gs) (gT_8_0 : Gs) (gT_10 : Gs) (gT_11 : Gs) (gT_11_1 : Gs) (gT_11_2 : Gs) (gT_11_3 : Gs) (v1 : Int32) : Option (Int32 × Gs × Gs × Gs × Gs × Gs × Gs × Gs × Gs) :=
  if (gI gT 12) = 0 then (rec gT gT_0 gT_2 gT_3 gT_5 gT_8 gT_8_0 gT_10 gT_11 gT_11_1 gT_11_2 gT_11_3 v1 (0 : Int32)) else (some ((-1 : Int32), gT, gT_3, gT_5, gT_10, gT_11, gT_11_1, gT_11_2, gT_11_3))
def b_X11_await_22 (n : Nat) (hT_8 : Nat) (hT_10 : Nat) (hT_11 : Nat) (rec : (Gs → Gs → Gs → Gs → Gs → Gs → Gs → Gs → Gs → Gs → Gs → Gs → Int32 → Int32 → Option (Int32 × Gs × Gs × Gs × Gs × Gs × Gs × Gs × Gs))) (gT : Gs) (gT_0 : Gs) (gT_2 : Gs) (gT_3 : Gs) (gT_5 : Gs) (gT_8 : Gs) (gT_8_0 : Gs) (gT_10 : Gs) (gT_11 : Gs) (gT_11_1 : Gs) (gT_11_2 : Gs) (gT_11_3 : Gs) (v1 : Int32) : Option (Int32 × Gs × Gs × Gs × Gs × Gs × Gs × Gs × Gs) :=
  if (gI gT 12) = 0 then (grd (inB (0 : Int32) 92) (if (gIA gT_10 17 (0 : Int32).toNatClampNeg) = 0 then (b_X11_await_44 n hT_8 hT_10 hT_11 rec gT gT_0 gT_2 gT_3 gT_5 gT_8 gT_8_0 gT_10 gT_11 gT_11_1 gT_11_2 gT_11_3 v1) else (b_X11_await_44 n hT_8 hT_10 hT_11 rec (sI gT 12 (4 : Int32)) gT_0 gT_2 gT_3 gT_5 gT_8 gT_8_0 gT_10 gT_11 gT_11_1 gT_11_2 gT_11_3 v1))) else (b_X11_await_44 n hT_8 hT_10 hT_11 rec gT gT_0 gT_2 gT_3 gT_5 gT_8 gT_8_0 gT_10 gT_11 gT_11_1 gT_11_2 gT_11_3 v1)
def L_X11_await (n : Nat) (hT_8 : Nat) (hT_10 : Nat) (hT_11 : Nat) : Nat → (Gs → Gs → Gs → Gs → Gs → Gs → Gs → Gs → Gs → Gs → Gs → Gs → Int32 → Int32 → Option (Int32 × Gs × Gs × Gs × Gs × Gs × Gs × Gs × Gs))
  | 0 => ((fun _ _ _ _ _ _ _ _ _ _ _ _ _ _ => none))
  | k + 1 => (h_X11_await_55 n hT_8 hT_10 hT_11 (L_X11_await n hT_8 hT_10 hT_11 k))
def f_X11_await (n : Nat) (hT_8 : Nat) (hT_10 : Nat) (hT_11 : Nat) (gT : Gs) (gT_0 : Gs) (gT_2 : Gs) (gT_3 : Gs) (gT_5 : Gs) (gT_8 : Gs) (gT_8_0 : Gs) (gT_10 : Gs) (gT_11 : Gs) (gT_11_1 : Gs) (gT_11_2 : Gs) (gT_11_3 : Gs) (x0 : Int32) : Option (Int32 × Gs × Gs × Gs × Gs × Gs × Gs × Gs × Gs) :=
  if x0 < 0 then (b_X11_await_11 n hT_8 hT_10 hT_11 (L_X11_await n hT_8 hT_10 hT_11 n) gT gT_0 gT_2 gT_3 gT_5 gT_8 gT_8_0 gT_10 gT_11 gT_11_1 gT_11_2 gT_11_3) else (if x0 ≤ (500 : Int32) then (bnd (f_X11_readAsked n hT_8 hT_10 hT_11 gT gT_0 gT_2 gT_8 gT_10 gT_11 gT_11_1 gT_11_2 gT_11_3) (fun q_1 => b_X11_await_22 n hT_8 hT_10 hT_11 (L_X11_await n hT_8 hT_10 hT_11 n) q_1.1 gT_0 gT_2 gT_3 gT_5 gT_8 gT_8_0 q_1.2.1 q_1.2.2.1 q_1.2.2.2.1 q_1.2.2.2.2.1 q_1.2.2.2.2.2 x0)) else (b_X11_await_11 n hT_8 hT_10 hT_11 (L_X11_await n hT_8 hT_10 hT_11 n) gT gT_0 gT_2 gT_3 gT_5 gT_8 gT_8_0 gT_10 gT_11 gT_11_1 gT_11_2 gT_11_3))
def S_X11_await_11 (l : Launch) (D : Dx) (hT : Nat) (aT : Nat → Nat) (yT : Nat → ClassId) (aT_0 : Nat → Nat) (yT_0 : Nat → ClassId) (aT_2 : Nat → Nat) (yT_2 : Nat → ClassId) (aT_3 : Nat → Nat) (yT_3 : Nat → ClassId) (aT_5 : Nat → Nat) (yT_5 : Nat → ClassId) (hT_8 : Nat) (aT_8 : Nat → Nat) (yT_8 : Nat → ClassId) (aT_8_0 : Nat → Nat) (yT_8_0 : Nat → ClassId) (hT_10 : Nat) (aT_10 : Nat → Nat) (yT_10 : Nat → ClassId) (hT_11 : Nat) (aT_11 : Nat → Nat) (yT_11 : Nat → ClassId) (aT_11_1 : Nat → Nat) (yT_11_1 : Nat → ClassId) (aT_11_2 : Nat → Nat) (yT_11_2 : Nat → ClassId) (aT_11_3 : Nat → Nat) (yT_11_3 : Nat → ClassId) (fn : Gs → Gs → Gs → Gs → Gs → Gs → Gs → Gs → Gs → Gs → Gs → Gs → Option (Int32 × Gs × Gs × Gs × Gs × Gs × Gs × Gs × Gs)) : Prop :=
  ∀ {p : Program} {e : Env} {s : State} {m : MethodId} {args : Array Value} {below : List Frame} {meth : Method} {c : Code} {H : Heap} {locs : List Loc} {A : Nat → Prop} {ls : Array Slot} {R : Room} {cells slots : Nat} {gT : Gs} {gT_0 : Gs} {gT_2 : Gs} {gT_3 : Gs} {gT_5 : Gs} {gT_8 : Gs} {gT_8_0 : Gs} {gT_10 : Gs} {gT_11 : Gs} {gT_11_1 : Gs} {gT_11_2 : Gs} {gT_11_3 : Gs} {q : Int32 × Gs × Gs × Gs × Gs × Gs × Gs × Gs × Gs}, (10 ≤ R.frames ∧ 246 ≤ R.locals) → (cells ≤ R.cells ∧ slots ≤ R.slots) → Cx p s m args meth c cX11_await (some .int) 4 RX11 lw_all → Hx D (tX11 yT ++ (tTP yT_0 ++ (tX6 yT_2 ++ (tX9 yT_3 ++ (tX1 yT_5 ++ (tX4 yT_8 ++ (tX0 yT_8_0 ++ (tX0 yT_10 ++ (tX5 yT_11 ++ (tX7 yT_11_1 ++ (tX2 yT_11_2 ++ (tX8 yT_11_3)))))))))))) A s H locs (wX11 hT aT yT gT ++ (wTP (aT 0) aT_0 yT_0 gT_0 ++ (wX6 (aT 2) aT_2 yT_2 gT_2 ++ (wX9 (aT 3) aT_3 yT_3 gT_3 ++ (wX1 (aT 5) (va_up (va_up aT_5 0 (aT 2)) 1 (aT 3)) yT_5 gT_5 ++ (wX4 hT_8 aT_8 yT_8 gT_8 ++ (wX0 (aT_8 0) aT_8_0 yT_8_0 gT_8_0 ++ (wX0 hT_10 aT_10 yT_10 gT_10 ++ (wX5 hT_11 (va_up aT_11 0 (aT 0)) yT_11 gT_11 ++ (wX7 ((va_up aT_11 0 (aT 0)) 1) (va_up (va_up aT_11_1 0 (aT 0)) 1 (aT 2)) yT_11_1 gT_11_1 ++ (wX2 ((va_up aT_11 0 (aT 0)) 2) (va_up aT_11_2 0 (aT 0)) yT_11_2 gT_11_2 ++ (wX8 ((va_up aT_11 0 (aT 0)) 3) aT_11_3 yT_11_3 gT_11_3)))))))))))) → lv_has ls 4 [(0, .ref hT)] → fn gT gT_0 gT_2 gT_3 gT_5 gT_8 gT_8_0 gT_10 gT_11 gT_11_1 gT_11_2 gT_11_3 = some q → W p l e R s m args below meth c H locs cells slots (MQ below (QI D A (wX11 hT aT yT q.2.1 ++ (wTP (aT 0) aT_0 yT_0 gT_0 ++ (wX6 (aT 2) aT_2 yT_2 gT_2 ++ (wX9 (aT 3) aT_3 yT_3 q.2.2.1 ++ (wX1 (aT 5) (va_up (va_up aT_5 0 (aT 2)) 1 (aT 3)) yT_5 q.2.2.2.1 ++ (wX4 hT_8 aT_8 yT_8 gT_8 ++ (wX0 (aT_8 0) aT_8_0 yT_8_0 gT_8_0 ++ (wX0 hT_10 aT_10 yT_10 q.2.2.2.2.1 ++ (wX5 hT_11 (va_up aT_11 0 (aT 0)) yT_11 q.2.2.2.2.2.1 ++ (wX7 ((va_up aT_11 0 (aT 0)) 1) (va_up (va_up aT_11_1 0 (aT 0)) 1 (aT 2)) yT_11_1 q.2.2.2.2.2.2.1 ++ (wX2 ((va_up aT_11 0 (aT 0)) 2) (va_up aT_11_2 0 (aT 0)) yT_11_2 q.2.2.2.2.2.2.2.1 ++ (wX8 ((va_up aT_11 0 (aT 0)) 3) aT_11_3 yT_11_3 q.2.2.2.2.2.2.2.2)))))))))))) q.1) args s cells slots A) (F0 m 11 ls [])
def S_X11_await_111 (l : Launch) (D : Dx) (hT : Nat) (aT : Nat → Nat) (yT : Nat → ClassId) (aT_0 : Nat → Nat) (yT_0 : Nat → ClassId) (aT_2 : Nat → Nat) (yT_2 : Nat → ClassId) (aT_3 : Nat → Nat) (yT_3 : Nat → ClassId) (aT_5 : Nat → Nat) (yT_5 : Nat → ClassId) (hT_8 : Nat) (aT_8 : Nat → Nat) (yT_8 : Nat → ClassId) (aT_8_0 : Nat → Nat) (yT_8_0 : Nat → ClassId) (hT_10 : Nat) (aT_10 : Nat → Nat) (yT_10 : Nat → ClassId) (hT_11 : Nat) (aT_11 : Nat → Nat) (yT_11 : Nat → ClassId) (aT_11_1 : Nat → Nat) (yT_11_1 : Nat → ClassId) (aT_11_2 : Nat → Nat) (yT_11_2 : Nat → ClassId) (aT_11_3 : Nat → Nat) (yT_11_3 : Nat → ClassId) (fn : Gs → Gs → Gs → Gs → Gs → Gs → Gs → Gs → Gs → Gs → Gs → Gs → Int32 → Int32 → Option (Int32 × Gs × Gs × Gs × Gs × Gs × Gs × Gs × Gs)) : Prop :=
  ∀ {p : Program} {e : Env} {s : State} {m : MethodId} {args : Array Value} {below : List Frame} {meth : Method} {c : Code} {H : Heap} {locs : List Loc} {A : Nat → Prop} {ls : Array Slot} {R : Room} {cells slots : Nat} {gT : Gs} {gT_0 : Gs} {gT_2 : Gs} {gT_3 : Gs} {gT_5 : Gs} {gT_8 : Gs} {gT_8_0 : Gs} {gT_10 : Gs} {gT_11 : Gs} {gT_11_1 : Gs} {gT_11_2 : Gs} {gT_11_3 : Gs} {v1 : Int32} {v3 : Int32} {q : Int32 × Gs × Gs × Gs × Gs × Gs × Gs × Gs × Gs}, (10 ≤ R.frames ∧ 246 ≤ R.locals) → (cells ≤ R.cells ∧ slots ≤ R.slots) → Cx p s m args meth c cX11_await (some .int) 4 RX11 lw_all → Hx D (tX11 yT ++ (tTP yT_0 ++ (tX6 yT_2 ++ (tX9 yT_3 ++ (tX1 yT_5 ++ (tX4 yT_8 ++ (tX0 yT_8_0 ++ (tX0 yT_10 ++ (tX5 yT_11 ++ (tX7 yT_11_1 ++ (tX2 yT_11_2 ++ (tX8 yT_11_3)))))))))))) A s H locs (wX11 hT aT yT gT ++ (wTP (aT 0) aT_0 yT_0 gT_0 ++ (wX6 (aT 2) aT_2 yT_2 gT_2 ++ (wX9 (aT 3) aT_3 yT_3 gT_3 ++ (wX1 (aT 5) (va_up (va_up aT_5 0 (aT 2)) 1 (aT 3)) yT_5 gT_5 ++ (wX4 hT_8 aT_8 yT_8 gT_8 ++ (wX0 (aT_8 0) aT_8_0 yT_8_0 gT_8_0 ++ (wX0 hT_10 aT_10 yT_10 gT_10 ++ (wX5 hT_11 (va_up aT_11 0 (aT 0)) yT_11 gT_11 ++ (wX7 ((va_up aT_11 0 (aT 0)) 1) (va_up (va_up aT_11_1 0 (aT 0)) 1 (aT 2)) yT_11_1 gT_11_1 ++ (wX2 ((va_up aT_11 0 (aT 0)) 2) (va_up aT_11_2 0 (aT 0)) yT_11_2 gT_11_2 ++ (wX8 ((va_up aT_11 0 (aT 0)) 3) aT_11_3 yT_11_3 gT_11_3)))))))))))) → lv_has ls 4 [(0, .ref hT), (1, .int v1), (2, .ref hT_10), (3, .int v3)] → fn gT gT_0 gT_2 gT_3 gT_5 gT_8 gT_8_0 gT_10 gT_11 gT_11_1 gT_11_2 gT_11_3 v1 v3 = some q → W p l e R s m args below meth c H locs cells slots (MQ below (QI D A (wX11 hT aT yT q.2.1 ++ (wTP (aT 0) aT_0 yT_0 gT_0 ++ (wX6 (aT 2) aT_2 yT_2 gT_2 ++ (wX9 (aT 3) aT_3 yT_3 q.2.2.1 ++ (wX1 (aT 5) (va_up (va_up aT_5 0 (aT 2)) 1 (aT 3)) yT_5 q.2.2.2.1 ++ (wX4 hT_8 aT_8 yT_8 gT_8 ++ (wX0 (aT_8 0) aT_8_0 yT_8_0 gT_8_0 ++ (wX0 hT_10 aT_10 yT_10 q.2.2.2.2.1 ++ (wX5 hT_11 (va_up aT_11 0 (aT 0)) yT_11 q.2.2.2.2.2.1 ++ (wX7 ((va_up aT_11 0 (aT 0)) 1) (va_up (va_up aT_11_1 0 (aT 0)) 1 (aT 2)) yT_11_1 q.2.2.2.2.2.2.1 ++ (wX2 ((va_up aT_11 0 (aT 0)) 2) (va_up aT_11_2 0 (aT 0)) yT_11_2 q.2.2.2.2.2.2.2.1 ++ (wX8 ((va_up aT_11 0 (aT 0)) 3) aT_11_3 yT_11_3 q.2.2.2.2.2.2.2.2)))))))))))) q.1) args s cells slots A) (F0 m 111 ls [])
def S_X11_await_55 (l : Launch) (D : Dx) (hT : Nat) (aT : Nat → Nat) (yT : Nat → ClassId) (aT_0 : Nat → Nat) (yT_0 : Nat → ClassId) (aT_2 : Nat → Nat) (yT_2 : Nat → ClassId) (aT_3 : Nat → Nat) (yT_3 : Nat → ClassId) (aT_5 : Nat → Nat) (yT_5 : Nat → ClassId) (hT_8 : Nat) (aT_8 : Nat → Nat) (yT_8 : Nat → ClassId) (aT_8_0 : Nat → Nat) (yT_8_0 : Nat → ClassId) (hT_10 : Nat) (aT_10 : Nat → Nat) (yT_10 : Nat → ClassId) (hT_11 : Nat) (aT_11 : Nat → Nat) (yT_11 : Nat → ClassId) (aT_11_1 : Nat → Nat) (yT_11_1 : Nat → ClassId) (aT_11_2 : Nat → Nat) (yT_11_2 : Nat → ClassId) (aT_11_3 : Nat → Nat) (yT_11_3 : Nat → ClassId) (fn : Gs → Gs → Gs → Gs → Gs → Gs → Gs → Gs → Gs → Gs → Gs → Gs → Int32 → Int32 → Option (Int32 × Gs × Gs × Gs × Gs × Gs × Gs × Gs × Gs)) : Prop :=
  ∀ {p : Program} {e : Env} {s : State} {m : MethodId} {args : Array Value} {below : List Frame} {meth : Method} {c : Code} {H : Heap} {locs : List Loc} {A : Nat → Prop} {ls : Array Slot} {R : Room} {cells slots : Nat} {gT : Gs} {gT_0 : Gs} {gT_2 : Gs} {gT_3 : Gs} {gT_5 : Gs} {gT_8 : Gs} {gT_8_0 : Gs} {gT_10 : Gs} {gT_11 : Gs} {gT_11_1 : Gs} {gT_11_2 : Gs} {gT_11_3 : Gs} {v1 : Int32} {v3 : Int32} {q : Int32 × Gs × Gs × Gs × Gs × Gs × Gs × Gs × Gs}, (10 ≤ R.frames ∧ 246 ≤ R.locals) → (cells ≤ R.cells ∧ slots ≤ R.slots) → Cx p s m args meth c cX11_await (some .int) 4 RX11 lw_all → Hx D (tX11 yT ++ (tTP yT_0 ++ (tX6 yT_2 ++ (tX9 yT_3 ++ (tX1 yT_5 ++ (tX4 yT_8 ++ (tX0 yT_8_0 ++ (tX0 yT_10 ++ (tX5 yT_11 ++ (tX7 yT_11_1 ++ (tX2 yT_11_2 ++ (tX8 yT_11_3)))))))))))) A s H locs (wX11 hT aT yT gT ++ (wTP (aT 0) aT_0 yT_0 gT_0 ++ (wX6 (aT 2) aT_2 yT_2 gT_2 ++ (wX9 (aT 3) aT_3 yT_3 gT_3 ++ (wX1 (aT 5) (va_up (va_up aT_5 0 (aT 2)) 1 (aT 3)) yT_5 gT_5 ++ (wX4 hT_8 aT_8 yT_8 gT_8 ++ (wX0 (aT_8 0) aT_8_0 yT_8_0 gT_8_0 ++ (wX0 hT_10 aT_10 yT_10 gT_10 ++ (wX5 hT_11 (va_up aT_11 0 (aT 0)) yT_11 gT_11 ++ (wX7 ((va_up aT_11 0 (aT 0)) 1) (va_up (va_up aT_11_1 0 (aT 0)) 1 (aT 2)) yT_11_1 gT_11_1 ++ (wX2 ((va_up aT_11 0 (aT 0)) 2) (va_up aT_11_2 0 (aT 0)) yT_11_2 gT_11_2 ++ (wX8 ((va_up aT_11 0 (aT 0)) 3) aT_11_3 yT_11_3 gT_11_3)))))))))))) → lv_has ls 4 [(0, .ref hT), (1, .int v1), (2, .ref hT_10), (3, .int v3)] → fn gT gT_0 gT_2 gT_3 gT_5 gT_8 gT_8_0 gT_10 gT_11 gT_11_1 gT_11_2 gT_11_3 v1 v3 = some q → W p l e R s m args below meth c H locs cells slots (MQ below (QI D A (wX11 hT aT yT q.2.1 ++ (wTP (aT 0) aT_0 yT_0 gT_0 ++ (wX6 (aT 2) aT_2 yT_2 gT_2 ++ (wX9 (aT 3) aT_3 yT_3 q.2.2.1 ++ (wX1 (aT 5) (va_up (va_up aT_5 0 (aT 2)) 1 (aT 3)) yT_5 q.2.2.2.1 ++ (wX4 hT_8 aT_8 yT_8 gT_8 ++ (wX0 (aT_8 0) aT_8_0 yT_8_0 gT_8_0 ++ (wX0 hT_10 aT_10 yT_10 q.2.2.2.2.1 ++ (wX5 hT_11 (va_up aT_11 0 (aT 0)) yT_11 q.2.2.2.2.2.1 ++ (wX7 ((va_up aT_11 0 (aT 0)) 1) (va_up (va_up aT_11_1 0 (aT 0)) 1 (aT 2)) yT_11_1 q.2.2.2.2.2.2.1 ++ (wX2 ((va_up aT_11 0 (aT 0)) 2) (va_up aT_11_2 0 (aT 0)) yT_11_2 q.2.2.2.2.2.2.2.1 ++ (wX8 ((va_up aT_11 0 (aT 0)) 3) aT_11_3 yT_11_3 q.2.2.2.2.2.2.2.2)))))))))))) q.1) args s cells slots A) (F0 m 55 ls [])
def S_X11_await_44 (l : Launch) (D : Dx) (hT : Nat) (aT : Nat → Nat) (yT : Nat → ClassId) (aT_0 : Nat → Nat) (yT_0 : Nat → ClassId) (aT_2 : Nat → Nat) (yT_2 : Nat → ClassId) (aT_3 : Nat → Nat) (yT_3 : Nat → ClassId) (aT_5 : Nat → Nat) (yT_5 : Nat → ClassId) (hT_8 : Nat) (aT_8 : Nat → Nat) (yT_8 : Nat → ClassId) (aT_8_0 : Nat → Nat) (yT_8_0 : Nat → ClassId) (hT_10 : Nat) (aT_10 : Nat → Nat) (yT_10 : Nat → ClassId) (hT_11 : Nat) (aT_11 : Nat → Nat) (yT_11 : Nat → ClassId) (aT_11_1 : Nat → Nat) (yT_11_1 : Nat → ClassId) (aT_11_2 : Nat → Nat) (yT_11_2 : Nat → ClassId) (aT_11_3 : Nat → Nat) (yT_11_3 : Nat → ClassId) (fn : Gs → Gs → Gs → Gs → Gs → Gs → Gs → Gs → Gs → Gs → Gs → Gs → Int32 → Option (Int32 × Gs × Gs × Gs × Gs × Gs × Gs × Gs × Gs)) : Prop :=
  ∀ {p : Program} {e : Env} {s : State} {m : MethodId} {args : Array Value} {below : List Frame} {meth : Method} {c : Code} {H : Heap} {locs : List Loc} {A : Nat → Prop} {ls : Array Slot} {R : Room} {cells slots : Nat} {gT : Gs} {gT_0 : Gs} {gT_2 : Gs} {gT_3 : Gs} {gT_5 : Gs} {gT_8 : Gs} {gT_8_0 : Gs} {gT_10 : Gs} {gT_11 : Gs} {gT_11_1 : Gs} {gT_11_2 : Gs} {gT_11_3 : Gs} {v1 : Int32} {q : Int32 × Gs × Gs × Gs × Gs × Gs × Gs × Gs × Gs}, (10 ≤ R.frames ∧ 246 ≤ R.locals) → (cells ≤ R.cells ∧ slots ≤ R.slots) → Cx p s m args meth c cX11_await (some .int) 4 RX11 lw_all → Hx D (tX11 yT ++ (tTP yT_0 ++ (tX6 yT_2 ++ (tX9 yT_3 ++ (tX1 yT_5 ++ (tX4 yT_8 ++ (tX0 yT_8_0 ++ (tX0 yT_10 ++ (tX5 yT_11 ++ (tX7 yT_11_1 ++ (tX2 yT_11_2 ++ (tX8 yT_11_3)))))))))))) A s H locs (wX11 hT aT yT gT ++ (wTP (aT 0) aT_0 yT_0 gT_0 ++ (wX6 (aT 2) aT_2 yT_2 gT_2 ++ (wX9 (aT 3) aT_3 yT_3 gT_3 ++ (wX1 (aT 5) (va_up (va_up aT_5 0 (aT 2)) 1 (aT 3)) yT_5 gT_5 ++ (wX4 hT_8 aT_8 yT_8 gT_8 ++ (wX0 (aT_8 0) aT_8_0 yT_8_0 gT_8_0 ++ (wX0 hT_10 aT_10 yT_10 gT_10 ++ (wX5 hT_11 (va_up aT_11 0 (aT 0)) yT_11 gT_11 ++ (wX7 ((va_up aT_11 0 (aT 0)) 1) (va_up (va_up aT_11_1 0 (aT 0)) 1 (aT 2)) yT_11_1 gT_11_1 ++ (wX2 ((va_up aT_11 0 (aT 0)) 2) (va_up aT_11_2 0 (aT 0)) yT_11_2 gT_11_2 ++ (wX8 ((va_up aT_11 0 (aT 0)) 3) aT_11_3 yT_11_3 gT_11_3)))))))))))) → lv_has ls 4 [(0, .ref hT), (1, .int v1), (2, .ref hT_10)] → fn gT gT_0 gT_2 gT_3 gT_5 gT_8 gT_8_0 gT_10 gT_11 gT_11_1 gT_11_2 gT_11_3 v1 = some q → W p l e R s m args below meth c H locs cells slots (MQ below (QI D A (wX11 hT aT yT q.2.1 ++ (wTP (aT 0) aT_0 yT_0 gT_0 ++ (wX6 (aT 2) aT_2 yT_2 gT_2 ++ (wX9 (aT 3) aT_3 yT_3 q.2.2.1 ++ (wX1 (aT 5) (va_up (va_up aT_5 0 (aT 2)) 1 (aT 3)) yT_5 q.2.2.2.1 ++ (wX4 hT_8 aT_8 yT_8 gT_8 ++ (wX0 (aT_8 0) aT_8_0 yT_8_0 gT_8_0 ++ (wX0 hT_10 aT_10 yT_10 q.2.2.2.2.1 ++ (wX5 hT_11 (va_up aT_11 0 (aT 0)) yT_11 q.2.2.2.2.2.1 ++ (wX7 ((va_up aT_11 0 (aT 0)) 1) (va_up (va_up aT_11_1 0 (aT 0)) 1 (aT 2)) yT_11_1 q.2.2.2.2.2.2.1 ++ (wX2 ((va_up aT_11 0 (aT 0)) 2) (va_up aT_11_2 0 (aT 0)) yT_11_2 q.2.2.2.2.2.2.2.1 ++ (wX8 ((va_up aT_11 0 (aT 0)) 3) aT_11_3 yT_11_3 q.2.2.2.2.2.2.2.2)))))))))))) q.1) args s cells slots A) (F0 m 44 ls [])
def S_X11_await_22 (l : Launch) (D : Dx) (hT : Nat) (aT : Nat → Nat) (yT : Nat → ClassId) (aT_0 : Nat → Nat) (yT_0 : Nat → ClassId) (aT_2 : Nat → Nat) (yT_2 : Nat → ClassId) (aT_3 : Nat → Nat) (yT_3 : Nat → ClassId) (aT_5 : Nat → Nat) (yT_5 : Nat → ClassId) (hT_8 : Nat) (aT_8 : Nat → Nat) (yT_8 : Nat → ClassId) (aT_8_0 : Nat → Nat) (yT_8_0 : Nat → ClassId) (hT_10 : Nat) (aT_10 : Nat → Nat) (yT_10 : Nat → ClassId) (hT_11 : Nat) (aT_11 : Nat → Nat) (yT_11 : Nat → ClassId) (aT_11_1 : Nat → Nat) (yT_11_1 : Nat → ClassId) (aT_11_2 : Nat → Nat) (yT_11_2 : Nat → ClassId) (aT_11_3 : Nat → Nat) (yT_11_3 : Nat → ClassId) (fn : Gs → Gs → Gs → Gs → Gs → Gs → Gs → Gs → Gs → Gs → Gs → Gs → Int32 → Option (Int32 × Gs × Gs × Gs × Gs × Gs × Gs × Gs × Gs)) : Prop :=
  ∀ {p : Program} {e : Env} {s : State} {m : MethodId} {args : Array Value} {below : List Frame} {meth : Method} {c : Code} {H : Heap} {locs : List Loc} {A : Nat → Prop} {ls : Array Slot} {R : Room} {cells slots : Nat} {gT : Gs} {gT_0 : Gs} {gT_2 : Gs} {gT_3 : Gs} {gT_5 : Gs} {gT_8 : Gs} {gT_8_0 : Gs} {gT_10 : Gs} {gT_11 : Gs} {gT_11_1 : Gs} {gT_11_2 : Gs} {gT_11_3 : Gs} {v1 : Int32} {q : Int32 × Gs × Gs × Gs × Gs × Gs × Gs × Gs × Gs}, (10 ≤ R.frames ∧ 246 ≤ R.locals) → (cells ≤ R.cells ∧ slots ≤ R.slots) → Cx p s m args meth c cX11_await (some .int) 4 RX11 lw_all → Hx D (tX11 yT ++ (tTP yT_0 ++ (tX6 yT_2 ++ (tX9 yT_3 ++ (tX1 yT_5 ++ (tX4 yT_8 ++ (tX0 yT_8_0 ++ (tX0 yT_10 ++ (tX5 yT_11 ++ (tX7 yT_11_1 ++ (tX2 yT_11_2 ++ (tX8 yT_11_3)))))))))))) A s H locs (wX11 hT aT yT gT ++ (wTP (aT 0) aT_0 yT_0 gT_0 ++ (wX6 (aT 2) aT_2 yT_2 gT_2 ++ (wX9 (aT 3) aT_3 yT_3 gT_3 ++ (wX1 (aT 5) (va_up (va_up aT_5 0 (aT 2)) 1 (aT 3)) yT_5 gT_5 ++ (wX4 hT_8 aT_8 yT_8 gT_8 ++ (wX0 (aT_8 0) aT_8_0 yT_8_0 gT_8_0 ++ (wX0 hT_10 aT_10 yT_10 gT_10 ++ (wX5 hT_11 (va_up aT_11 0 (aT 0)) yT_11 gT_11 ++ (wX7 ((va_up aT_11 0 (aT 0)) 1) (va_up (va_up aT_11_1 0 (aT 0)) 1 (aT 2)) yT_11_1 gT_11_1 ++ (wX2 ((va_up aT_11 0 (aT 0)) 2) (va_up aT_11_2 0 (aT 0)) yT_11_2 gT_11_2 ++ (wX8 ((va_up aT_11 0 (aT 0)) 3) aT_11_3 yT_11_3 gT_11_3)))))))))))) → lv_has ls 4 [(0, .ref hT), (1, .int v1)] → fn gT gT_0 gT_2 gT_3 gT_5 gT_8 gT_8_0 gT_10 gT_11 gT_11_1 gT_11_2 gT_11_3 v1 = some q → W p l e R s m args below meth c H locs cells slots (MQ below (QI D A (wX11 hT aT yT q.2.1 ++ (wTP (aT 0) aT_0 yT_0 gT_0 ++ (wX6 (aT 2) aT_2 yT_2 gT_2 ++ (wX9 (aT 3) aT_3 yT_3 q.2.2.1 ++ (wX1 (aT 5) (va_up (va_up aT_5 0 (aT 2)) 1 (aT 3)) yT_5 q.2.2.2.1 ++ (wX4 hT_8 aT_8 yT_8 gT_8 ++ (wX0 (aT_8 0) aT_8_0 yT_8_0 gT_8_0 ++ (wX0 hT_10 aT_10 yT_10 q.2.2.2.2.1 ++ (wX5 hT_11 (va_up aT_11 0 (aT 0)) yT_11 q.2.2.2.2.2.1 ++ (wX7 ((va_up aT_11 0 (aT 0)) 1) (va_up (va_up aT_11_1 0 (aT 0)) 1 (aT 2)) yT_11_1 q.2.2.2.2.2.2.1 ++ (wX2 ((va_up aT_11 0 (aT 0)) 2) (va_up aT_11_2 0 (aT 0)) yT_11_2 q.2.2.2.2.2.2.2.1 ++ (wX8 ((va_up aT_11 0 (aT 0)) 3) aT_11_3 yT_11_3 q.2.2.2.2.2.2.2.2)))))))))))) q.1) args s cells slots A) (F0 m 22 ls [.ref hT_10])
def SH_X11_await (l : Launch) (D : Dx) (hT : Nat) (aT : Nat → Nat) (yT : Nat → ClassId) (aT_0 : Nat → Nat) (yT_0 : Nat → ClassId) (aT_2 : Nat → Nat) (yT_2 : Nat → ClassId) (aT_3 : Nat → Nat) (yT_3 : Nat → ClassId) (aT_5 : Nat → Nat) (yT_5 : Nat → ClassId) (hT_8 : Nat) (aT_8 : Nat → Nat) (yT_8 : Nat → ClassId) (aT_8_0 : Nat → Nat) (yT_8_0 : Nat → ClassId) (hT_10 : Nat) (aT_10 : Nat → Nat) (yT_10 : Nat → ClassId) (hT_11 : Nat) (aT_11 : Nat → Nat) (yT_11 : Nat → ClassId) (aT_11_1 : Nat → Nat) (yT_11_1 : Nat → ClassId) (aT_11_2 : Nat → Nat) (yT_11_2 : Nat → ClassId) (aT_11_3 : Nat → Nat) (yT_11_3 : Nat → ClassId) (rec : (Gs → Gs → Gs → Gs → Gs → Gs → Gs → Gs → Gs → Gs → Gs → Gs → Int32 → Int32 → Option (Int32 × Gs × Gs × Gs × Gs × Gs × Gs × Gs × Gs))) : Prop := S_X11_await_55 l D hT aT yT aT_0 yT_0 aT_2 yT_2 aT_3 yT_3 aT_5 yT_5 hT_8 aT_8 yT_8 aT_8_0 yT_8_0 hT_10 aT_10 yT_10 hT_11 aT_11 yT_11 aT_11_1 yT_11_1 aT_11_2 yT_11_2 aT_11_3 yT_11_3 rec
set_option maxHeartbeats 4000000 in
set_option maxRecDepth 100000 in
theorem k_X11_await_11 (l : Launch) (D : Dx) (hT : Nat) (aT : Nat → Nat) (yT : Nat → ClassId) (aT_0 : Nat → Nat) (yT_0 : Nat → ClassId) (aT_2 : Nat → Nat) (yT_2 : Nat → ClassId) (aT_3 : Nat → Nat) (yT_3 : Nat → ClassId) (aT_5 : Nat → Nat) (yT_5 : Nat → ClassId) (hT_8 : Nat) (aT_8 : Nat → Nat) (yT_8 : Nat → ClassId) (aT_8_0 : Nat → Nat) (yT_8_0 : Nat → ClassId) (hT_10 : Nat) (aT_10 : Nat → Nat) (yT_10 : Nat → ClassId) (hT_11 : Nat) (aT_11 : Nat → Nat) (yT_11 : Nat → ClassId) (aT_11_1 : Nat → Nat) (yT_11_1 : Nat → ClassId) (aT_11_2 : Nat → Nat) (yT_11_2 : Nat → ClassId) (aT_11_3 : Nat → Nat) (yT_11_3 : Nat → ClassId) (n : Nat) (rec : (Gs → Gs → Gs → Gs → Gs → Gs → Gs → Gs → Gs → Gs → Gs → Gs → Int32 → Int32 → Option (Int32 × Gs × Gs × Gs × Gs × Gs × Gs × Gs × Gs))) (IH : SH_X11_await l D hT aT yT aT_0 yT_0 aT_2 yT_2 aT_3 yT_3 aT_5 yT_5 hT_8 aT_8 yT_8 aT_8_0 yT_8_0 hT_10 aT_10 yT_10 hT_11 aT_11 yT_11 aT_11_1 yT_11_1 aT_11_2 yT_11_2 aT_11_3 yT_11_3 rec) : S_X11_await_11 l D hT aT yT aT_0 yT_0 aT_2 yT_2 aT_3 yT_3 aT_5 yT_5 hT_8 aT_8 yT_8 aT_8_0 yT_8_0 hT_10 aT_10 yT_10 hT_11 aT_11 yT_11 aT_11_1 yT_11_1 aT_11_2 yT_11_2 aT_11_3 yT_11_3 (b_X11_await_11 n hT_8 hT_10 hT_11 rec) := by
  intro p e s m args below meth c H locs A ls R cells slots gT gT_0 gT_2 gT_3 gT_5 gT_8 gT_8_0 gT_10 gT_11 gT_11_1 gT_11_2 gT_11_3 q hR hcs C X hl hF
  obtain ⟨hx, hb, hr, hml, hown, hts, hlk⟩ := id C
  unfold b_X11_await_11 at hF
  refine lv_aload_n hx hb dX11_await_11 rfl (lv_at hl 0 rfl) ?_
  refine lv_iconst (v := (0 : Int32)) hx hb dX11_await_12 (by decide) ?_
  refine va_put (D := D.1) (ci := 11) (v := .int (0 : Int32)) (ty := .int) (C := RX11) (T := TX11) (N := 14) hx hb hts wi_X11 tyX11 tyX11_ok nmX11 hown X.1 X.2.1 X.2.2.1 X.2.2.2.1 0 rfl rfl 1 (by decide) (hts _ q2_148) (fun _ h9 => h9) rfl (by decide +kernel) rfl rfl (by rw [List.length_map, List.length_range]; decide) dX11_await_13 (fun H locs hP hD hS => ?_)
  have X : Hx D (tX11 yT ++ (tTP yT_0 ++ (tX6 yT_2 ++ (tX9 yT_3 ++ (tX1 yT_5 ++ (tX4 yT_8 ++ (tX0 yT_8_0 ++ (tX0 yT_10 ++ (tX5 yT_11 ++ (tX7 yT_11_1 ++ (tX2 yT_11_2 ++ (tX8 yT_11_3)))))))))))) A s H locs (wX11 hT aT yT (sI gT 1 (0 : Int32)) ++ (wTP (aT 0) aT_0 yT_0 gT_0 ++ (wX6 (aT 2) aT_2 yT_2 gT_2 ++ (wX9 (aT 3) aT_3 yT_3 gT_3 ++ (wX1 (aT 5) (va_up (va_up aT_5 0 (aT 2)) 1 (aT 3)) yT_5 gT_5 ++ (wX4 hT_8 aT_8 yT_8 gT_8 ++ (wX0 (aT_8 0) aT_8_0 yT_8_0 gT_8_0 ++ (wX0 hT_10 aT_10 yT_10 gT_10 ++ (wX5 hT_11 (va_up aT_11 0 (aT 0)) yT_11 gT_11 ++ (wX7 ((va_up aT_11 0 (aT 0)) 1) (va_up (va_up aT_11_1 0 (aT 0)) 1 (aT 2)) yT_11_1 gT_11_1 ++ (wX2 ((va_up aT_11 0 (aT 0)) 2) (va_up aT_11_2 0 (aT 0)) yT_11_2 gT_11_2 ++ (wX8 ((va_up aT_11 0 (aT 0)) 3) aT_11_3 yT_11_3 gT_11_3)))))))))))) := Hx_set X (set_l (by rw [wG_len (m := 1) rfl]; decide) (wG_sI (k := 1) rfl)) hP hD hS
  refine lv_iconst (v := (-1 : Int32)) hx hb dX11_await_16 (by decide) ?_
  have hq := Option.some.inj hF
  subst hq
  exact rt_i C X dX11_await_17
set_option maxHeartbeats 4000000 in
set_option maxRecDepth 100000 in
theorem k_X11_await_111 (l : Launch) (D : Dx) (hT : Nat) (aT : Nat → Nat) (yT : Nat → ClassId) (aT_0 : Nat → Nat) (yT_0 : Nat → ClassId) (aT_2 : Nat → Nat) (yT_2 : Nat → ClassId) (aT_3 : Nat → Nat) (yT_3 : Nat → ClassId) (aT_5 : Nat → Nat) (yT_5 : Nat → ClassId) (hT_8 : Nat) (aT_8 : Nat → Nat) (yT_8 : Nat → ClassId) (aT_8_0 : Nat → Nat) (yT_8_0 : Nat → ClassId) (hT_10 : Nat) (aT_10 : Nat → Nat) (yT_10 : Nat → ClassId) (hT_11 : Nat) (aT_11 : Nat → Nat) (yT_11 : Nat → ClassId) (aT_11_1 : Nat → Nat) (yT_11_1 : Nat → ClassId) (aT_11_2 : Nat → Nat) (yT_11_2 : Nat → ClassId) (aT_11_3 : Nat → Nat) (yT_11_3 : Nat → ClassId) (n : Nat) (rec : (Gs → Gs → Gs → Gs → Gs → Gs → Gs → Gs → Gs → Gs → Gs → Gs → Int32 → Int32 → Option (Int32 × Gs × Gs × Gs × Gs × Gs × Gs × Gs × Gs))) (IH : SH_X11_await l D hT aT yT aT_0 yT_0 aT_2 yT_2 aT_3 yT_3 aT_5 yT_5 hT_8 aT_8 yT_8 aT_8_0 yT_8_0 hT_10 aT_10 yT_10 hT_11 aT_11 yT_11 aT_11_1 yT_11_1 aT_11_2 yT_11_2 aT_11_3 yT_11_3 rec) : S_X11_await_111 l D hT aT yT aT_0 yT_0 aT_2 yT_2 aT_3 yT_3 aT_5 yT_5 hT_8 aT_8 yT_8 aT_8_0 yT_8_0 hT_10 aT_10 yT_10 hT_11 aT_11 yT_11 aT_11_1 yT_11_1 aT_11_2 yT_11_2 aT_11_3 yT_11_3 (b_X11_await_111 n hT_8 hT_10 hT_11 rec) := by
  intro p e s m args below meth c H locs A ls R cells slots gT gT_0 gT_2 gT_3 gT_5 gT_8 gT_8_0 gT_10 gT_11 gT_11_1 gT_11_2 gT_11_3 v1 v3 q hR hcs C X hl hF
  obtain ⟨hx, hb, hr, hml, hown, hts, hlk⟩ := id C
  unfold b_X11_await_111 at hF
  refine lv_iinc (v := v3 + (1 : Int32)) (lv' := [(3, .int (v3 + (1 : Int32))), (0, .ref hT), (1, .int v1), (2, .ref hT_10)]) hx hb dX11_await_111 hl (k := 3) rfl rfl (by decide) rfl (fun ls hl => ?_)
  refine lv_goto (tgt := 55) hx hb dX11_await_114 (by decide) ?_
  exact IH hR hcs C X (lv_sub hl [1, 2, 3, 0] rfl) hF
set_option maxHeartbeats 4000000 in
set_option maxRecDepth 100000 in
theorem k_X11_await_55 (l : Launch) (D : Dx) (hT : Nat) (aT : Nat → Nat) (yT : Nat → ClassId) (aT_0 : Nat → Nat) (yT_0 : Nat → ClassId) (aT_2 : Nat → Nat) (yT_2 : Nat → ClassId) (aT_3 : Nat → Nat) (yT_3 : Nat → ClassId) (aT_5 : Nat → Nat) (yT_5 : Nat → ClassId) (hT_8 : Nat) (aT_8 : Nat → Nat) (yT_8 : Nat → ClassId) (aT_8_0 : Nat → Nat) (yT_8_0 : Nat → ClassId) (hT_10 : Nat) (aT_10 : Nat → Nat) (yT_10 : Nat → ClassId) (hT_11 : Nat) (aT_11 : Nat → Nat) (yT_11 : Nat → ClassId) (aT_11_1 : Nat → Nat) (yT_11_1 : Nat → ClassId) (aT_11_2 : Nat → Nat) (yT_11_2 : Nat → ClassId) (aT_11_3 : Nat → Nat) (yT_11_3 : Nat → ClassId) (n : Nat) (rec : (Gs → Gs → Gs → Gs → Gs → Gs → Gs → Gs → Gs → Gs → Gs → Gs → Int32 → Int32 → Option (Int32 × Gs × Gs × Gs × Gs × Gs × Gs × Gs × Gs))) (IH : SH_X11_await l D hT aT yT aT_0 yT_0 aT_2 yT_2 aT_3 yT_3 aT_5 yT_5 hT_8 aT_8 yT_8 aT_8_0 yT_8_0 hT_10 aT_10 yT_10 hT_11 aT_11 yT_11 aT_11_1 yT_11_1 aT_11_2 yT_11_2 aT_11_3 yT_11_3 rec) : S_X11_await_55 l D hT aT yT aT_0 yT_0 aT_2 yT_2 aT_3 yT_3 aT_5 yT_5 hT_8 aT_8 yT_8 aT_8_0 yT_8_0 hT_10 aT_10 yT_10 hT_11 aT_11 yT_11 aT_11_1 yT_11_1 aT_11_2 yT_11_2 aT_11_3 yT_11_3 (h_X11_await_55 n hT_8 hT_10 hT_11 rec) := by
  intro p e s m args below meth c H locs A ls R cells slots gT gT_0 gT_2 gT_3 gT_5 gT_8 gT_8_0 gT_10 gT_11 gT_11_1 gT_11_2 gT_11_3 v1 v3 q hR hcs C X hl hF
  obtain ⟨hx, hb, hr, hml, hown, hts, hlk⟩ := id C
  unfold h_X11_await_55 at hF
  refine lv_iload_n hx hb dX11_await_55 rfl (lv_at hl 3 rfl) ?_
  refine lv_iload_n hx hb dX11_await_56 rfl (lv_at hl 1 rfl) ?_
  refine lv_icmp_gt (tgt := 117) hx hb dX11_await_57 (by decide) (fun c => ?_) (fun c => ?_)
  · replace hF := iT c hF
    refine lv_bipush (v := (-2 : Int32)) hx hb dX11_await_117 (by decide) ?_
    have hq := Option.some.inj hF
    subst hq
    exact rt_i C X dX11_await_119
  · replace hF := iF c hF
    refine lv_aload_n hx hb dX11_await_60 rfl (lv_at hl 0 rfl) ?_
    refine va_get (D := D.1) (ci := 11) (v := .ref (aT 5)) (C := RX11) (T := TX11) (N := 14) hx hb hts wi_X11 hown X.1 X.2.1 0 rfl rfl 5 (by decide) (hts _ q2_152) (fun _ h9 => h9) (fl_get (by decide)) dX11_await_61 ?_
    refine lv_aload_n hx hb dX11_await_64 rfl (lv_at hl 0 rfl) ?_
    obtain ⟨h_3, hF⟩ := grd_some hF
    refine va_get (D := D.1) (ci := 11) (v := .ref hT_8) (C := RX11) (T := TX11) (N := 14) hx hb hts wi_X11 hown X.1 X.2.1 0 rfl rfl 8 (by decide) (hts _ q2_155) (fun _ h9 => h9) ((fl_get (by decide)).trans (rf_eq h_3)) dX11_await_65 ?_
    refine lv_aload_n hx hb dX11_await_68 rfl (lv_at hl 2 rfl) ?_
    refine lv_iconst (v := (0 : Int32)) hx hb dX11_await_69 (by decide) ?_
    obtain ⟨q_4, hc_5, hF⟩ := bnd_some hF
    refine cV_i (As := [.ref hT_8, .ref hT_10, .int (0 : Int32)]) (rest := []) C X (c_X1_run l D (aT 5) (va_up (va_up aT_5 0 (aT 2)) 1 (aT 3)) yT_5 aT_2 yT_2 aT_3 yT_3 hT_8 aT_8 yT_8 hT_10 aT_10 yT_10 n gT_5 gT_2 gT_3 gT_8 gT_10 (0 : Int32) q_4 hc_5 _) (cwV 3 hts (good_V q6_33 q5_33 q5_34 q1_4 q5_35) rfl rfl rfl (by decide +kernel) ⟨Nat.le_trans (Nat.le_of_ble_eq_true rfl) hR.1, Nat.le_trans (Nat.le_of_ble_eq_true rfl) hR.2⟩) (va_recv X.1 X.2.1 (ci := 1) (q0 := 17) rfl rfl) (X.1.sub (tys' := tX1 yT_5 ++ (tX6 yT_2 ++ (tX9 yT_3 ++ (tX4 yT_8 ++ (tX0 yT_10))))) [14, 15, 1, 2, 3, 4, 5, 6, 7, 8, 9, 10, 11, 12, 13, 16, 17, 18, 19, 20, 21, 22, 23, 24, 25, 41, 42, 43, 44, 45, 46, 47, 48, 49, 50, 51, 52, 53, 54, 55] rfl) (X.2.1.sub (ws' := wX1 (aT 5) (va_up (va_up aT_5 0 (aT 2)) 1 (aT 3)) yT_5 gT_5 ++ (wX6 (aT 2) aT_2 yT_2 gT_2 ++ (wX9 (aT 3) aT_3 yT_3 gT_3 ++ (wX4 hT_8 aT_8 yT_8 gT_8 ++ (wX0 hT_10 aT_10 yT_10 gT_10))))) [17, 18, 19, 2, 3, 4, 5, 6, 7, 8, 9, 10, 11, 12, 13, 14, 15, 16, 20, 21, 22, 23, 24, 25, 26, 27, 28, 29, 30, 47, 48, 49, 50, 51, 52, 53, 54, 55, 56, 57, 58, 59, 60, 61, 62] rfl) (X.2.2.1.sub (ws' := wX1 (aT 5) (va_up (va_up aT_5 0 (aT 2)) 1 (aT 3)) yT_5 gT_5 ++ (wX6 (aT 2) aT_2 yT_2 gT_2 ++ (wX9 (aT 3) aT_3 yT_3 gT_3 ++ (wX4 hT_8 aT_8 yT_8 gT_8 ++ (wX0 hT_10 aT_10 yT_10 gT_10))))) [17, 18, 19, 2, 3, 4, 5, 6, 7, 8, 9, 10, 11, 12, 13, 14, 15, 16, 20, 21, 22, 23, 24, 25, 26, 27, 28, 29, 30, 47, 48, 49, 50, 51, 52, 53, 54, 55, 56, 57, 58, 59, 60, 61, 62] (by decide) rfl) (free_of (wC := wX1 (aT 5) (va_up (va_up aT_5 0 (aT 2)) 1 (aT 3)) yT_5 gT_5 ++ (wX6 (aT 2) aT_2 yT_2 gT_2 ++ (wX9 (aT 3) aT_3 yT_3 gT_3 ++ (wX4 hT_8 aT_8 yT_8 gT_8 ++ (wX0 hT_10 aT_10 yT_10 gT_10))))) (isC := [17, 18, 19, 2, 3, 4, 5, 6, 7, 8, 9, 10, 11, 12, 13, 14, 15, 16, 20, 21, 22, 23, 24, 25, 26, 27, 28, 29, 30, 47, 48, 49, 50, 51, 52, 53, 54, 55, 56, 57, 58, 59, 60, 61, 62]) X rfl) hl.1 rfl rfl (Nat.le_of_ble_eq_true rfl) dX11_await_70 hcs (fun t H1 locs1 ht hB hk hS => ?_)
    have X : Hx D (tX11 yT ++ (tTP yT_0 ++ (tX6 yT_2 ++ (tX9 yT_3 ++ (tX1 yT_5 ++ (tX4 yT_8 ++ (tX0 yT_8_0 ++ (tX0 yT_10 ++ (tX5 yT_11 ++ (tX7 yT_11_1 ++ (tX2 yT_11_2 ++ (tX8 yT_11_3)))))))))))) A s H1 locs1 (wX11 hT aT yT gT ++ (wTP (aT 0) aT_0 yT_0 gT_0 ++ (wX6 (aT 2) aT_2 yT_2 gT_2 ++ (wX9 (aT 3) aT_3 yT_3 gT_3 ++ (wX1 (aT 5) (va_up (va_up aT_5 0 (aT 2)) 1 (aT 3)) yT_5 q_4.2 ++ (wX4 hT_8 aT_8 yT_8 gT_8 ++ (wX0 (aT_8 0) aT_8_0 yT_8_0 gT_8_0 ++ (wX0 hT_10 aT_10 yT_10 gT_10 ++ (wX5 hT_11 (va_up aT_11 0 (aT 0)) yT_11 gT_11 ++ (wX7 ((va_up aT_11 0 (aT 0)) 1) (va_up (va_up aT_11_1 0 (aT 0)) 1 (aT 2)) yT_11_1 gT_11_1 ++ (wX2 ((va_up aT_11 0 (aT 0)) 2) (va_up aT_11_2 0 (aT 0)) yT_11_2 gT_11_2 ++ (wX8 ((va_up aT_11 0 (aT 0)) 3) aT_11_3 yT_11_3 gT_11_3)))))))))))) := Hx_after (isC := [17, 18, 19, 2, 3, 4, 5, 6, 7, 8, 9, 10, 11, 12, 13, 14, 15, 16, 20, 21, 22, 23, 24, 25, 26, 27, 28, 29, 30, 47, 48, 49, 50, 51, 52, 53, 54, 55, 56, 57, 58, 59, 60, 61, 62]) (isR := [0, 1, 31, 32, 33, 34, 35, 36, 37, 38, 39, 40, 41, 42, 43, 44, 45, 46, 63, 64, 65, 66, 67, 68, 69, 70, 71]) (pm := [0, 1, 30, 31, 32, 33, 34, 35, 36, 37, 38, 39, 40, 41, 42, 43, 44, 27, 28, 29, 45, 46, 47, 48, 49, 50, 51, 52, 53, 54, 55, 2, 3, 4, 5, 6, 7, 8, 9, 10, 11, 12, 13, 14, 15, 16, 17, 56, 57, 58, 59, 60, 61, 62, 63, 64, 65, 66, 67, 68, 69, 70, 71, 18, 19, 20, 21, 22, 23, 24, 25, 26]) (wr := wX11 hT aT yT gT ++ (wTP (aT 0) aT_0 yT_0 gT_0 ++ (wX0 (aT_8 0) aT_8_0 yT_8_0 gT_8_0 ++ (wX5 hT_11 (va_up aT_11 0 (aT 0)) yT_11 gT_11 ++ (wX7 ((va_up aT_11 0 (aT 0)) 1) (va_up (va_up aT_11_1 0 (aT 0)) 1 (aT 2)) yT_11_1 gT_11_1 ++ (wX2 ((va_up aT_11 0 (aT 0)) 2) (va_up aT_11_2 0 (aT 0)) yT_11_2 gT_11_2 ++ (wX8 ((va_up aT_11 0 (aT 0)) 3) aT_11_3 yT_11_3 gT_11_3))))))) X ⟨rfl, rfl, by decide, by decide, rfl, by decide⟩ ht hB hk hS
    clear hk hS ht hB
    generalize H1 = H at X ⊢
    generalize locs1 = locs at X ⊢
    refine lv_if_ne (tgt := 79) hx hb dX11_await_73 (by decide) (fun c => ?_) (fun c => ?_)
    · replace hF := iF c hF
      refine lv_aload_n hx hb dX11_await_79 rfl (lv_at hl 0 rfl) ?_
      refine va_get (D := D.1) (ci := 11) (v := .ref (aT 5)) (C := RX11) (T := TX11) (N := 14) hx hb hts wi_X11 hown X.1 X.2.1 0 rfl rfl 5 (by decide) (hts _ q2_152) (fun _ h9 => h9) (fl_get (by decide)) dX11_await_80 ?_
      refine va_getN (D := D.1) (ci := 1) (v := .ref ((va_up (va_up aT_5 0 (aT 2)) 1 (aT 3)) 2)) (C := RX1) (T := TX1) (N := 7) hx hb hts wi_X1 hown X.1 X.2.1 17 rfl rfl 2 (by decide) (X.2.2.2.2.2.1.use q1_140 rfl) (fun _ h9 => h9) (fl_get (by decide)) dX11_await_83 ?_
      refine lv_iconst (v := (0 : Int32)) hx hb dX11_await_86 (by decide) ?_
      obtain ⟨h_6, hF⟩ := grd_some hF
      refine va_lald (D := D.1) (f := gLA q_4.2 2) hx hb X.1 X.2.1 18 14 rfl rfl (inB_ok h_6) dX11_await_87 ?_
      refine lv_lconst (v := (0 : Int64)) hx hb dX11_await_88 (by decide) ?_
      refine W.lcmp hx hb dX11_await_89 ?_
      refine lv_if_eq (tgt := 95) hx hb dX11_await_90 (by decide) (fun c => ?_) (fun c => ?_)
      · have c := (lg_cmp_eq _ _).mp c
        replace hF := iT c hF
        refine lv_iload_n hx hb dX11_await_95 rfl (lv_at hl 3 rfl) ?_
        refine lv_iload_n hx hb dX11_await_96 rfl (lv_at hl 1 rfl) ?_
        refine lv_icmp_ge (tgt := 111) hx hb dX11_await_97 (by decide) (fun c => ?_) (fun c => ?_)
        · replace hF := iT c hF
          exact (k_X11_await_111 l D hT aT yT aT_0 yT_0 aT_2 yT_2 aT_3 yT_3 aT_5 yT_5 hT_8 aT_8 yT_8 aT_8_0 yT_8_0 hT_10 aT_10 yT_10 hT_11 aT_11 yT_11 aT_11_1 yT_11_1 aT_11_2 yT_11_2 aT_11_3 yT_11_3 n rec IH) hR hcs C X (lv_sub hl [0, 1, 2, 3] rfl) hF
        · replace hF := iF c hF
          refine lv_aload_n hx hb dX11_await_100 rfl (lv_at hl 0 rfl) ?_
          refine va_get (D := D.1) (ci := 11) (v := .ref (aT 5)) (C := RX11) (T := TX11) (N := 14) hx hb hts wi_X11 hown X.1 X.2.1 0 rfl rfl 5 (by decide) (hts _ q2_152) (fun _ h9 => h9) (fl_get (by decide)) dX11_await_101 ?_
          refine lv_aload_n hx hb dX11_await_104 rfl (lv_at hl 0 rfl) ?_
          obtain ⟨h_7, hF⟩ := grd_some hF
          refine va_get (D := D.1) (ci := 11) (v := .ref hT_8) (C := RX11) (T := TX11) (N := 14) hx hb hts wi_X11 hown X.1 X.2.1 0 rfl rfl 8 (by decide) (hts _ q2_155) (fun _ h9 => h9) ((fl_get (by decide)).trans (rf_eq h_7)) dX11_await_105 ?_
          obtain ⟨q_8, hc_9, hF⟩ := bnd_some hF
          refine cV_v (As := [.ref hT_8]) (rest := []) C X (c_X1_turn l D (aT 5) (va_up (va_up aT_5 0 (aT 2)) 1 (aT 3)) yT_5 aT_2 yT_2 aT_3 yT_3 hT_8 aT_8 yT_8 aT_8_0 yT_8_0 n q_4.2 gT_2 gT_3 gT_8 gT_8_0 q_8 hc_9 _) (cwV 1 hts (good_V q5_232 q5_233 q5_234 q1_4 q5_235) rfl rfl rfl (by decide +kernel) ⟨Nat.le_trans (Nat.le_of_ble_eq_true rfl) hR.1, Nat.le_trans (Nat.le_of_ble_eq_true rfl) hR.2⟩) (va_recv X.1 X.2.1 (ci := 1) (q0 := 17) rfl rfl) (X.1.sub (tys' := tX1 yT_5 ++ (tX6 yT_2 ++ (tX9 yT_3 ++ (tX4 yT_8 ++ (tX0 yT_8_0))))) [14, 15, 1, 2, 3, 4, 5, 6, 7, 8, 9, 10, 11, 12, 13, 16, 17, 18, 19, 20, 21, 22, 23, 24, 25, 26, 27, 28, 29, 30, 31, 32, 33, 34, 35, 36, 37, 38, 39, 40] rfl) (X.2.1.sub (ws' := wX1 (aT 5) (va_up (va_up aT_5 0 (aT 2)) 1 (aT 3)) yT_5 q_4.2 ++ (wX6 (aT 2) aT_2 yT_2 gT_2 ++ (wX9 (aT 3) aT_3 yT_3 gT_3 ++ (wX4 hT_8 aT_8 yT_8 gT_8 ++ (wX0 (aT_8 0) aT_8_0 yT_8_0 gT_8_0))))) [17, 18, 19, 2, 3, 4, 5, 6, 7, 8, 9, 10, 11, 12, 13, 14, 15, 16, 20, 21, 22, 23, 24, 25, 26, 27, 28, 29, 30, 31, 32, 33, 34, 35, 36, 37, 38, 39, 40, 41, 42, 43, 44, 45, 46] rfl) (X.2.2.1.sub (ws' := wX1 (aT 5) (va_up (va_up aT_5 0 (aT 2)) 1 (aT 3)) yT_5 q_4.2 ++ (wX6 (aT 2) aT_2 yT_2 gT_2 ++ (wX9 (aT 3) aT_3 yT_3 gT_3 ++ (wX4 hT_8 aT_8 yT_8 gT_8 ++ (wX0 (aT_8 0) aT_8_0 yT_8_0 gT_8_0))))) [17, 18, 19, 2, 3, 4, 5, 6, 7, 8, 9, 10, 11, 12, 13, 14, 15, 16, 20, 21, 22, 23, 24, 25, 26, 27, 28, 29, 30, 31, 32, 33, 34, 35, 36, 37, 38, 39, 40, 41, 42, 43, 44, 45, 46] (by decide) rfl) (free_of (wC := wX1 (aT 5) (va_up (va_up aT_5 0 (aT 2)) 1 (aT 3)) yT_5 q_4.2 ++ (wX6 (aT 2) aT_2 yT_2 gT_2 ++ (wX9 (aT 3) aT_3 yT_3 gT_3 ++ (wX4 hT_8 aT_8 yT_8 gT_8 ++ (wX0 (aT_8 0) aT_8_0 yT_8_0 gT_8_0))))) (isC := [17, 18, 19, 2, 3, 4, 5, 6, 7, 8, 9, 10, 11, 12, 13, 14, 15, 16, 20, 21, 22, 23, 24, 25, 26, 27, 28, 29, 30, 31, 32, 33, 34, 35, 36, 37, 38, 39, 40, 41, 42, 43, 44, 45, 46]) X rfl) hl.1 rfl rfl (Nat.le_of_ble_eq_true rfl) dX11_await_108 hcs (fun t H1 locs1 ht hB hk hS => ?_)
          have X : Hx D (tX11 yT ++ (tTP yT_0 ++ (tX6 yT_2 ++ (tX9 yT_3 ++ (tX1 yT_5 ++ (tX4 yT_8 ++ (tX0 yT_8_0 ++ (tX0 yT_10 ++ (tX5 yT_11 ++ (tX7 yT_11_1 ++ (tX2 yT_11_2 ++ (tX8 yT_11_3)))))))))))) A s H1 locs1 (wX11 hT aT yT gT ++ (wTP (aT 0) aT_0 yT_0 gT_0 ++ (wX6 (aT 2) aT_2 yT_2 gT_2 ++ (wX9 (aT 3) aT_3 yT_3 q_8.2 ++ (wX1 (aT 5) (va_up (va_up aT_5 0 (aT 2)) 1 (aT 3)) yT_5 q_8.1 ++ (wX4 hT_8 aT_8 yT_8 gT_8 ++ (wX0 (aT_8 0) aT_8_0 yT_8_0 gT_8_0 ++ (wX0 hT_10 aT_10 yT_10 gT_10 ++ (wX5 hT_11 (va_up aT_11 0 (aT 0)) yT_11 gT_11 ++ (wX7 ((va_up aT_11 0 (aT 0)) 1) (va_up (va_up aT_11_1 0 (aT 0)) 1 (aT 2)) yT_11_1 gT_11_1 ++ (wX2 ((va_up aT_11 0 (aT 0)) 2) (va_up aT_11_2 0 (aT 0)) yT_11_2 gT_11_2 ++ (wX8 ((va_up aT_11 0 (aT 0)) 3) aT_11_3 yT_11_3 gT_11_3)))))))))))) := Hx_after (isC := [17, 18, 19, 2, 3, 4, 5, 6, 7, 8, 9, 10, 11, 12, 13, 14, 15, 16, 20, 21, 22, 23, 24, 25, 26, 27, 28, 29, 30, 31, 32, 33, 34, 35, 36, 37, 38, 39, 40, 41, 42, 43, 44, 45, 46]) (isR := [0, 1, 47, 48, 49, 50, 51, 52, 53, 54, 55, 56, 57, 58, 59, 60, 61, 62, 63, 64, 65, 66, 67, 68, 69, 70, 71]) (pm := [0, 1, 30, 31, 32, 33, 34, 35, 36, 37, 38, 39, 40, 41, 42, 43, 44, 27, 28, 29, 45, 46, 47, 48, 49, 50, 51, 52, 53, 54, 55, 56, 57, 58, 59, 60, 61, 62, 63, 64, 65, 66, 67, 68, 69, 70, 71, 2, 3, 4, 5, 6, 7, 8, 9, 10, 11, 12, 13, 14, 15, 16, 17, 18, 19, 20, 21, 22, 23, 24, 25, 26]) (wr := wX11 hT aT yT gT ++ (wTP (aT 0) aT_0 yT_0 gT_0 ++ (wX0 hT_10 aT_10 yT_10 gT_10 ++ (wX5 hT_11 (va_up aT_11 0 (aT 0)) yT_11 gT_11 ++ (wX7 ((va_up aT_11 0 (aT 0)) 1) (va_up (va_up aT_11_1 0 (aT 0)) 1 (aT 2)) yT_11_1 gT_11_1 ++ (wX2 ((va_up aT_11 0 (aT 0)) 2) (va_up aT_11_2 0 (aT 0)) yT_11_2 gT_11_2 ++ (wX8 ((va_up aT_11 0 (aT 0)) 3) aT_11_3 yT_11_3 gT_11_3))))))) X ⟨rfl, rfl, by decide, by decide, rfl, by decide⟩ ht hB hk hS
          clear hk hS ht hB
          generalize H1 = H at X ⊢
          generalize locs1 = locs at X ⊢
          exact (k_X11_await_111 l D hT aT yT aT_0 yT_0 aT_2 yT_2 aT_3 yT_3 aT_5 yT_5 hT_8 aT_8 yT_8 aT_8_0 yT_8_0 hT_10 aT_10 yT_10 hT_11 aT_11 yT_11 aT_11_1 yT_11_1 aT_11_2 yT_11_2 aT_11_3 yT_11_3 n rec IH) hR hcs C X (lv_sub hl [0, 1, 2, 3] rfl) hF
      · have c := fun h => c ((lg_cmp_eq _ _).mpr h)
        replace hF := iF c hF
        refine lv_iload_n hx hb dX11_await_93 rfl (lv_at hl 3 rfl) ?_
        have hq := Option.some.inj hF
        subst hq
        exact rt_i C X dX11_await_94
    · replace hF := iT c hF
      refine lv_bipush (v := (-3 : Int32)) hx hb dX11_await_76 (by decide) ?_
      have hq := Option.some.inj hF
      subst hq
      exact rt_i C X dX11_await_78
set_option maxHeartbeats 4000000 in
set_option maxRecDepth 100000 in
theorem k_X11_await_44 (l : Launch) (D : Dx) (hT : Nat) (aT : Nat → Nat) (yT : Nat → ClassId) (aT_0 : Nat → Nat) (yT_0 : Nat → ClassId) (aT_2 : Nat → Nat) (yT_2 : Nat → ClassId) (aT_3 : Nat → Nat) (yT_3 : Nat → ClassId) (aT_5 : Nat → Nat) (yT_5 : Nat → ClassId) (hT_8 : Nat) (aT_8 : Nat → Nat) (yT_8 : Nat → ClassId) (aT_8_0 : Nat → Nat) (yT_8_0 : Nat → ClassId) (hT_10 : Nat) (aT_10 : Nat → Nat) (yT_10 : Nat → ClassId) (hT_11 : Nat) (aT_11 : Nat → Nat) (yT_11 : Nat → ClassId) (aT_11_1 : Nat → Nat) (yT_11_1 : Nat → ClassId) (aT_11_2 : Nat → Nat) (yT_11_2 : Nat → ClassId) (aT_11_3 : Nat → Nat) (yT_11_3 : Nat → ClassId) (n : Nat) (rec : (Gs → Gs → Gs → Gs → Gs → Gs → Gs → Gs → Gs → Gs → Gs → Gs → Int32 → Int32 → Option (Int32 × Gs × Gs × Gs × Gs × Gs × Gs × Gs × Gs))) (IH : SH_X11_await l D hT aT yT aT_0 yT_0 aT_2 yT_2 aT_3 yT_3 aT_5 yT_5 hT_8 aT_8 yT_8 aT_8_0 yT_8_0 hT_10 aT_10 yT_10 hT_11 aT_11 yT_11 aT_11_1 yT_11_1 aT_11_2 yT_11_2 aT_11_3 yT_11_3 rec) : S_X11_await_44 l D hT aT yT aT_0 yT_0 aT_2 yT_2 aT_3 yT_3 aT_5 yT_5 hT_8 aT_8 yT_8 aT_8_0 yT_8_0 hT_10 aT_10 yT_10 hT_11 aT_11 yT_11 aT_11_1 yT_11_1 aT_11_2 yT_11_2 aT_11_3 yT_11_3 (b_X11_await_44 n hT_8 hT_10 hT_11 rec) := by
  intro p e s m args below meth c H locs A ls R cells slots gT gT_0 gT_2 gT_3 gT_5 gT_8 gT_8_0 gT_10 gT_11 gT_11_1 gT_11_2 gT_11_3 v1 q hR hcs C X hl hF
  obtain ⟨hx, hb, hr, hml, hown, hts, hlk⟩ := id C
  unfold b_X11_await_44 at hF
  refine lv_aload_n hx hb dX11_await_44 rfl (lv_at hl 0 rfl) ?_
  refine va_get (D := D.1) (ci := 11) (v := .int (gI gT 12)) (C := RX11) (T := TX11) (N := 14) hx hb hts wi_X11 hown X.1 X.2.1 0 rfl rfl 12 (by decide) (hts _ q2_159) (fun _ h9 => h9) (fl_get (by decide)) dX11_await_45 ?_
  refine lv_if_eq (tgt := 53) hx hb dX11_await_48 (by decide) (fun c => ?_) (fun c => ?_)
  · replace hF := iT c hF
    refine lv_iconst (v := (0 : Int32)) hx hb dX11_await_53 (by decide) ?_
    refine lv_istore_n (lv' := [(3, .int (0 : Int32)), (0, .ref hT), (1, .int v1), (2, .ref hT_10)]) hx hb dX11_await_54 rfl hl (by decide) rfl (fun ls hl => ?_)
    exact IH hR hcs C X (lv_sub hl [1, 2, 3, 0] rfl) hF
  · replace hF := iF c hF
    refine lv_iconst (v := (-1 : Int32)) hx hb dX11_await_51 (by decide) ?_
    have hq := Option.some.inj hF
    subst hq
    exact rt_i C X dX11_await_52
set_option maxHeartbeats 4000000 in
set_option maxRecDepth 100000 in
theorem k_X11_await_22 (l : Launch) (D : Dx) (hT : Nat) (aT : Nat → Nat) (yT : Nat → ClassId) (aT_0 : Nat → Nat) (yT_0 : Nat → ClassId) (aT_2 : Nat → Nat) (yT_2 : Nat → ClassId) (aT_3 : Nat → Nat) (yT_3 : Nat → ClassId) (aT_5 : Nat → Nat) (yT_5 : Nat → ClassId) (hT_8 : Nat) (aT_8 : Nat → Nat) (yT_8 : Nat → ClassId) (aT_8_0 : Nat → Nat) (yT_8_0 : Nat → ClassId) (hT_10 : Nat) (aT_10 : Nat → Nat) (yT_10 : Nat → ClassId) (hT_11 : Nat) (aT_11 : Nat → Nat) (yT_11 : Nat → ClassId) (aT_11_1 : Nat → Nat) (yT_11_1 : Nat → ClassId) (aT_11_2 : Nat → Nat) (yT_11_2 : Nat → ClassId) (aT_11_3 : Nat → Nat) (yT_11_3 : Nat → ClassId) (n : Nat) (rec : (Gs → Gs → Gs → Gs → Gs → Gs → Gs → Gs → Gs → Gs → Gs → Gs → Int32 → Int32 → Option (Int32 × Gs × Gs × Gs × Gs × Gs × Gs × Gs × Gs))) (IH : SH_X11_await l D hT aT yT aT_0 yT_0 aT_2 yT_2 aT_3 yT_3 aT_5 yT_5 hT_8 aT_8 yT_8 aT_8_0 yT_8_0 hT_10 aT_10 yT_10 hT_11 aT_11 yT_11 aT_11_1 yT_11_1 aT_11_2 yT_11_2 aT_11_3 yT_11_3 rec) : S_X11_await_22 l D hT aT yT aT_0 yT_0 aT_2 yT_2 aT_3 yT_3 aT_5 yT_5 hT_8 aT_8 yT_8 aT_8_0 yT_8_0 hT_10 aT_10 yT_10 hT_11 aT_11 yT_11 aT_11_1 yT_11_1 aT_11_2 yT_11_2 aT_11_3 yT_11_3 (b_X11_await_22 n hT_8 hT_10 hT_11 rec) := by
  intro p e s m args below meth c H locs A ls R cells slots gT gT_0 gT_2 gT_3 gT_5 gT_8 gT_8_0 gT_10 gT_11 gT_11_1 gT_11_2 gT_11_3 v1 q hR hcs C X hl hF
  obtain ⟨hx, hb, hr, hml, hown, hts, hlk⟩ := id C
  unfold b_X11_await_22 at hF
  refine lv_astore_n (lv' := [(2, .ref hT_10), (0, .ref hT), (1, .int v1)]) hx hb dX11_await_22 rfl hl (by decide) rfl (fun ls hl => ?_)
  refine lv_aload_n hx hb dX11_await_23 rfl (lv_at hl 1 rfl) ?_
  refine va_get (D := D.1) (ci := 11) (v := .int (gI gT 12)) (C := RX11) (T := TX11) (N := 14) hx hb hts wi_X11 hown X.1 X.2.1 0 rfl rfl 12 (by decide) (hts _ q2_159) (fun _ h9 => h9) (fl_get (by decide)) dX11_await_24 ?_
  refine lv_if_ne (tgt := 44) hx hb dX11_await_27 (by decide) (fun c => ?_) (fun c => ?_)
  · replace hF := iF c hF
    exact (k_X11_await_44 l D hT aT yT aT_0 yT_0 aT_2 yT_2 aT_3 yT_3 aT_5 yT_5 hT_8 aT_8 yT_8 aT_8_0 yT_8_0 hT_10 aT_10 yT_10 hT_11 aT_11 yT_11 aT_11_1 yT_11_1 aT_11_2 yT_11_2 aT_11_3 yT_11_3 n rec IH) hR hcs C X (lv_sub hl [1, 2, 0] rfl) hF
  · replace hF := iT c hF
    refine lv_aload_n hx hb dX11_await_30 rfl (lv_at hl 0 rfl) ?_
    refine va_getN (D := D.1) (ci := 0) (v := .ref (aT_10 17)) (C := RX0) (T := TX0) (N := 19) hx hb hts wi_X0 hown X.1 X.2.1 47 rfl rfl 17 (by decide) (X.2.2.2.2.2.1.use q2_23 rfl) (fun _ h9 => h9) (fl_get (by decide)) dX11_await_31 ?_
    refine lv_iconst (v := (0 : Int32)) hx hb dX11_await_34 (by decide) ?_
    obtain ⟨h_10, hF⟩ := grd_some hF
    refine va_iald (D := D.1) (f := gIA gT_10 17) hx hb X.1 X.2.1 62 55 rfl rfl (inB_ok h_10) dX11_await_35 ?_
    refine lv_if_eq (tgt := 44) hx hb dX11_await_36 (by decide) (fun c => ?_) (fun c => ?_)
    · replace hF := iT c hF
      exact (k_X11_await_44 l D hT aT yT aT_0 yT_0 aT_2 yT_2 aT_3 yT_3 aT_5 yT_5 hT_8 aT_8 yT_8 aT_8_0 yT_8_0 hT_10 aT_10 yT_10 hT_11 aT_11 yT_11 aT_11_1 yT_11_1 aT_11_2 yT_11_2 aT_11_3 yT_11_3 n rec IH) hR hcs C X (lv_sub hl [1, 2, 0] rfl) hF
    · replace hF := iF c hF
      refine lv_aload_n hx hb dX11_await_39 rfl (lv_at hl 1 rfl) ?_
      refine lv_iconst (v := (4 : Int32)) hx hb dX11_await_40 (by decide) ?_
      refine va_put (D := D.1) (ci := 11) (v := .int (4 : Int32)) (ty := .int) (C := RX11) (T := TX11) (N := 14) hx hb hts wi_X11 tyX11 tyX11_ok nmX11 hown X.1 X.2.1 X.2.2.1 X.2.2.2.1 0 rfl rfl 12 (by decide) (hts _ q2_159) (fun _ h9 => h9) rfl (by decide +kernel) rfl rfl (by rw [List.length_map, List.length_range]; decide) dX11_await_41 (fun H locs hP hD hS => ?_)
      have X : Hx D (tX11 yT ++ (tTP yT_0 ++ (tX6 yT_2 ++ (tX9 yT_3 ++ (tX1 yT_5 ++ (tX4 yT_8 ++ (tX0 yT_8_0 ++ (tX0 yT_10 ++ (tX5 yT_11 ++ (tX7 yT_11_1 ++ (tX2 yT_11_2 ++ (tX8 yT_11_3)))))))))))) A s H locs (wX11 hT aT yT (sI gT 12 (4 : Int32)) ++ (wTP (aT 0) aT_0 yT_0 gT_0 ++ (wX6 (aT 2) aT_2 yT_2 gT_2 ++ (wX9 (aT 3) aT_3 yT_3 gT_3 ++ (wX1 (aT 5) (va_up (va_up aT_5 0 (aT 2)) 1 (aT 3)) yT_5 gT_5 ++ (wX4 hT_8 aT_8 yT_8 gT_8 ++ (wX0 (aT_8 0) aT_8_0 yT_8_0 gT_8_0 ++ (wX0 hT_10 aT_10 yT_10 gT_10 ++ (wX5 hT_11 (va_up aT_11 0 (aT 0)) yT_11 gT_11 ++ (wX7 ((va_up aT_11 0 (aT 0)) 1) (va_up (va_up aT_11_1 0 (aT 0)) 1 (aT 2)) yT_11_1 gT_11_1 ++ (wX2 ((va_up aT_11 0 (aT 0)) 2) (va_up aT_11_2 0 (aT 0)) yT_11_2 gT_11_2 ++ (wX8 ((va_up aT_11 0 (aT 0)) 3) aT_11_3 yT_11_3 gT_11_3)))))))))))) := Hx_set X (set_l (by rw [wG_len (m := 1) rfl]; decide) (wG_sI (k := 12) rfl)) hP hD hS
      exact (k_X11_await_44 l D hT aT yT aT_0 yT_0 aT_2 yT_2 aT_3 yT_3 aT_5 yT_5 hT_8 aT_8 yT_8 aT_8_0 yT_8_0 hT_10 aT_10 yT_10 hT_11 aT_11 yT_11 aT_11_1 yT_11_1 aT_11_2 yT_11_2 aT_11_3 yT_11_3 n rec IH) hR hcs C X (lv_sub hl [1, 2, 0] rfl) hF
theorem kL_X11_await (l : Launch) (D : Dx) (hT : Nat) (aT : Nat → Nat) (yT : Nat → ClassId) (aT_0 : Nat → Nat) (yT_0 : Nat → ClassId) (aT_2 : Nat → Nat) (yT_2 : Nat → ClassId) (aT_3 : Nat → Nat) (yT_3 : Nat → ClassId) (aT_5 : Nat → Nat) (yT_5 : Nat → ClassId) (hT_8 : Nat) (aT_8 : Nat → Nat) (yT_8 : Nat → ClassId) (aT_8_0 : Nat → Nat) (yT_8_0 : Nat → ClassId) (hT_10 : Nat) (aT_10 : Nat → Nat) (yT_10 : Nat → ClassId) (hT_11 : Nat) (aT_11 : Nat → Nat) (yT_11 : Nat → ClassId) (aT_11_1 : Nat → Nat) (yT_11_1 : Nat → ClassId) (aT_11_2 : Nat → Nat) (yT_11_2 : Nat → ClassId) (aT_11_3 : Nat → Nat) (yT_11_3 : Nat → ClassId) (n : Nat) : ∀ k, SH_X11_await l D hT aT yT aT_0 yT_0 aT_2 yT_2 aT_3 yT_3 aT_5 yT_5 hT_8 aT_8 yT_8 aT_8_0 yT_8_0 hT_10 aT_10 yT_10 hT_11 aT_11 yT_11 aT_11_1 yT_11_1 aT_11_2 yT_11_2 aT_11_3 yT_11_3 (L_X11_await n hT_8 hT_10 hT_11 k)
  | 0 => fun _ _ _ _ _ h => by cases h
  | k + 1 => k_X11_await_55 l D hT aT yT aT_0 yT_0 aT_2 yT_2 aT_3 yT_3 aT_5 yT_5 hT_8 aT_8 yT_8 aT_8_0 yT_8_0 hT_10 aT_10 yT_10 hT_11 aT_11 yT_11 aT_11_1 yT_11_1 aT_11_2 yT_11_2 aT_11_3 yT_11_3 n _ (kL_X11_await l D hT aT yT aT_0 yT_0 aT_2 yT_2 aT_3 yT_3 aT_5 yT_5 hT_8 aT_8 yT_8 aT_8_0 yT_8_0 hT_10 aT_10 yT_10 hT_11 aT_11 yT_11 aT_11_1 yT_11_1 aT_11_2 yT_11_2 aT_11_3 yT_11_3 n k)
set_option maxHeartbeats 4000000 in
set_option maxRecDepth 100000 in
theorem c_X11_await (l : Launch) (D : Dx) (hT : Nat) (aT : Nat → Nat) (yT : Nat → ClassId) (aT_0 : Nat → Nat) (yT_0 : Nat → ClassId) (aT_2 : Nat → Nat) (yT_2 : Nat → ClassId) (aT_3 : Nat → Nat) (yT_3 : Nat → ClassId) (aT_5 : Nat → Nat) (yT_5 : Nat → ClassId) (hT_8 : Nat) (aT_8 : Nat → Nat) (yT_8 : Nat → ClassId) (aT_8_0 : Nat → Nat) (yT_8_0 : Nat → ClassId) (hT_10 : Nat) (aT_10 : Nat → Nat) (yT_10 : Nat → ClassId) (hT_11 : Nat) (aT_11 : Nat → Nat) (yT_11 : Nat → ClassId) (aT_11_1 : Nat → Nat) (yT_11_1 : Nat → ClassId) (aT_11_2 : Nat → Nat) (yT_11_2 : Nat → ClassId) (aT_11_3 : Nat → Nat) (yT_11_3 : Nat → ClassId) (n : Nat) (gT : Gs) (gT_0 : Gs) (gT_2 : Gs) (gT_3 : Gs) (gT_5 : Gs) (gT_8 : Gs) (gT_8_0 : Gs) (gT_10 : Gs) (gT_11 : Gs) (gT_11_1 : Gs) (gT_11_2 : Gs) (gT_11_3 : Gs) (x0 : Int32) (q : Int32 × Gs × Gs × Gs × Gs × Gs × Gs × Gs × Gs) (hF : f_X11_await n hT_8 hT_10 hT_11 gT gT_0 gT_2 gT_3 gT_5 gT_8 gT_8_0 gT_10 gT_11 gT_11_1 gT_11_2 gT_11_3 x0 = some q) (sz : Nat) : Met l yX11_await (ws_ yX11_await cX11_await 4 (some .int)) R_X11_await (PC D (tX11 yT ++ (tTP yT_0 ++ (tX6 yT_2 ++ (tX9 yT_3 ++ (tX1 yT_5 ++ (tX4 yT_8 ++ (tX0 yT_8_0 ++ (tX0 yT_10 ++ (tX5 yT_11 ++ (tX7 yT_11_1 ++ (tX2 yT_11_2 ++ (tX8 yT_11_3)))))))))))) [.ref hT, .int x0] (wX11 hT aT yT gT ++ (wTP (aT 0) aT_0 yT_0 gT_0 ++ (wX6 (aT 2) aT_2 yT_2 gT_2 ++ (wX9 (aT 3) aT_3 yT_3 gT_3 ++ (wX1 (aT 5) (va_up (va_up aT_5 0 (aT 2)) 1 (aT 3)) yT_5 gT_5 ++ (wX4 hT_8 aT_8 yT_8 gT_8 ++ (wX0 (aT_8 0) aT_8_0 yT_8_0 gT_8_0 ++ (wX0 hT_10 aT_10 yT_10 gT_10 ++ (wX5 hT_11 (va_up aT_11 0 (aT 0)) yT_11 gT_11 ++ (wX7 ((va_up aT_11 0 (aT 0)) 1) (va_up (va_up aT_11_1 0 (aT 0)) 1 (aT 2)) yT_11_1 gT_11_1 ++ (wX2 ((va_up aT_11 0 (aT 0)) 2) (va_up aT_11_2 0 (aT 0)) yT_11_2 gT_11_2 ++ (wX8 ((va_up aT_11 0 (aT 0)) 3) aT_11_3 yT_11_3 gT_11_3)))))))))))) sz) (QI D (va_A (wX11 hT aT yT gT ++ (wTP (aT 0) aT_0 yT_0 gT_0 ++ (wX6 (aT 2) aT_2 yT_2 gT_2 ++ (wX9 (aT 3) aT_3 yT_3 gT_3 ++ (wX1 (aT 5) (va_up (va_up aT_5 0 (aT 2)) 1 (aT 3)) yT_5 gT_5 ++ (wX4 hT_8 aT_8 yT_8 gT_8 ++ (wX0 (aT_8 0) aT_8_0 yT_8_0 gT_8_0 ++ (wX0 hT_10 aT_10 yT_10 gT_10 ++ (wX5 hT_11 (va_up aT_11 0 (aT 0)) yT_11 gT_11 ++ (wX7 ((va_up aT_11 0 (aT 0)) 1) (va_up (va_up aT_11_1 0 (aT 0)) 1 (aT 2)) yT_11_1 gT_11_1 ++ (wX2 ((va_up aT_11 0 (aT 0)) 2) (va_up aT_11_2 0 (aT 0)) yT_11_2 gT_11_2 ++ (wX8 ((va_up aT_11 0 (aT 0)) 3) aT_11_3 yT_11_3 gT_11_3)))))))))))) sz) (wX11 hT aT yT q.2.1 ++ (wTP (aT 0) aT_0 yT_0 gT_0 ++ (wX6 (aT 2) aT_2 yT_2 gT_2 ++ (wX9 (aT 3) aT_3 yT_3 q.2.2.1 ++ (wX1 (aT 5) (va_up (va_up aT_5 0 (aT 2)) 1 (aT 3)) yT_5 q.2.2.2.1 ++ (wX4 hT_8 aT_8 yT_8 gT_8 ++ (wX0 (aT_8 0) aT_8_0 yT_8_0 gT_8_0 ++ (wX0 hT_10 aT_10 yT_10 q.2.2.2.2.1 ++ (wX5 hT_11 (va_up aT_11 0 (aT 0)) yT_11 q.2.2.2.2.2.1 ++ (wX7 ((va_up aT_11 0 (aT 0)) 1) (va_up (va_up aT_11_1 0 (aT 0)) 1 (aT 2)) yT_11_1 q.2.2.2.2.2.2.1 ++ (wX2 ((va_up aT_11 0 (aT 0)) 2) (va_up aT_11_2 0 (aT 0)) yT_11_2 q.2.2.2.2.2.2.2.1 ++ (wX8 ((va_up aT_11 0 (aT 0)) 3) aT_11_3 yT_11_3 q.2.2.2.2.2.2.2.2)))))))))))) q.1) 0 0 (va_A (wX11 hT aT yT gT ++ (wTP (aT 0) aT_0 yT_0 gT_0 ++ (wX6 (aT 2) aT_2 yT_2 gT_2 ++ (wX9 (aT 3) aT_3 yT_3 gT_3 ++ (wX1 (aT 5) (va_up (va_up aT_5 0 (aT 2)) 1 (aT 3)) yT_5 gT_5 ++ (wX4 hT_8 aT_8 yT_8 gT_8 ++ (wX0 (aT_8 0) aT_8_0 yT_8_0 gT_8_0 ++ (wX0 hT_10 aT_10 yT_10 gT_10 ++ (wX5 hT_11 (va_up aT_11 0 (aT 0)) yT_11 gT_11 ++ (wX7 ((va_up aT_11 0 (aT 0)) 1) (va_up (va_up aT_11_1 0 (aT 0)) 1 (aT 2)) yT_11_1 gT_11_1 ++ (wX2 ((va_up aT_11 0 (aT 0)) 2) (va_up aT_11_2 0 (aT 0)) yT_11_2 gT_11_2 ++ (wX8 ((va_up aT_11 0 (aT 0)) 3) aT_11_3 yT_11_3 gT_11_3)))))))))))) sz) := by
  refine Met.ofW (cc := cX11_await) (maxL := 4) (ret := (some .int)) (by decide) rfl ?_
  intro p e s m args below meth c s₁ B hml hv
  obtain ⟨rfl, hsz, hP, hK, hD, hN⟩ := hv
  subst hsz
  have C : Cx p s m _ meth c cX11_await (some .int) 4 RX11 lw_all := Cx_of B hml
  have X := Hx_start hP hK hD hN
  obtain ⟨hx, hb, hr, -, hown, hts, hlk⟩ := id C
  generalize va_A (wX11 hT aT yT gT ++ (wTP (aT 0) aT_0 yT_0 gT_0 ++ (wX6 (aT 2) aT_2 yT_2 gT_2 ++ (wX9 (aT 3) aT_3 yT_3 gT_3 ++ (wX1 (aT 5) (va_up (va_up aT_5 0 (aT 2)) 1 (aT 3)) yT_5 gT_5 ++ (wX4 hT_8 aT_8 yT_8 gT_8 ++ (wX0 (aT_8 0) aT_8_0 yT_8_0 gT_8_0 ++ (wX0 hT_10 aT_10 yT_10 gT_10 ++ (wX5 hT_11 (va_up aT_11 0 (aT 0)) yT_11 gT_11 ++ (wX7 ((va_up aT_11 0 (aT 0)) 1) (va_up (va_up aT_11_1 0 (aT 0)) 1 (aT 2)) yT_11_1 gT_11_1 ++ (wX2 ((va_up aT_11 0 (aT 0)) 2) (va_up aT_11_2 0 (aT 0)) yT_11_2 gT_11_2 ++ (wX8 ((va_up aT_11 0 (aT 0)) 3) aT_11_3 yT_11_3 gT_11_3)))))))))))) s.heap.size = A at X ⊢
  have hl := lv_entry ([.ref hT, .int x0]) (n := 4) (Nat.le_of_ble_eq_true rfl)
  rw [lg_entry_eq]
  generalize (lg_sl ([.ref hT, .int x0]) ++ List.replicate (4 - (lg_sl ([.ref hT, .int x0])).length) Slot.unset).toArray = ls at hl ⊢
  have hl : lv_has ls 4 [(0, .ref hT), (1, .int x0)] := hl
  have hR : 10 ≤ R_X11_await.frames ∧ 246 ≤ R_X11_await.locals := ⟨Nat.le_of_ble_eq_true rfl, Nat.le_of_ble_eq_true rfl⟩
  have hcs : 0 ≤ R_X11_await.cells ∧ 0 ≤ R_X11_await.slots := ⟨Nat.le_of_ble_eq_true rfl, Nat.le_of_ble_eq_true rfl⟩
  unfold f_X11_await at hF
  refine lv_iload_n hx hb dX11_await_0 rfl (lv_at hl 1 rfl) ?_
  refine lv_if_lt (tgt := 11) hx hb dX11_await_1 (by decide) (fun c => ?_) (fun c => ?_)
  · replace hF := iT c hF
    exact (k_X11_await_11 l D hT aT yT aT_0 yT_0 aT_2 yT_2 aT_3 yT_3 aT_5 yT_5 hT_8 aT_8 yT_8 aT_8_0 yT_8_0 hT_10 aT_10 yT_10 hT_11 aT_11 yT_11 aT_11_1 yT_11_1 aT_11_2 yT_11_2 aT_11_3 yT_11_3 n (L_X11_await n hT_8 hT_10 hT_11 n) (kL_X11_await l D hT aT yT aT_0 yT_0 aT_2 yT_2 aT_3 yT_3 aT_5 yT_5 hT_8 aT_8 yT_8 aT_8_0 yT_8_0 hT_10 aT_10 yT_10 hT_11 aT_11 yT_11 aT_11_1 yT_11_1 aT_11_2 yT_11_2 aT_11_3 yT_11_3 n n)) hR hcs C X (lv_sub hl [0] rfl) hF
  · replace hF := iF c hF
    refine lv_iload_n hx hb dX11_await_4 rfl (lv_at hl 1 rfl) ?_
    refine lv_sipush (v := (500 : Int32)) hx hb dX11_await_5 (by decide) ?_
    refine lv_icmp_le (tgt := 18) hx hb dX11_await_8 (by decide) (fun c => ?_) (fun c => ?_)
    · replace hF := iT c hF
      refine lv_aload_n hx hb dX11_await_18 rfl (lv_at hl 0 rfl) ?_
      obtain ⟨q_1, hc_2, hF⟩ := bnd_some hF
      refine cV_r (As := []) (rest := []) C X (c_X11_readAsked l D hT aT yT aT_0 yT_0 aT_2 yT_2 hT_8 aT_8 yT_8 hT_10 aT_10 yT_10 hT_11 (va_up aT_11 0 (aT 0)) yT_11 (va_up (va_up aT_11_1 0 (aT 0)) 1 (aT 2)) yT_11_1 (va_up aT_11_2 0 (aT 0)) yT_11_2 aT_11_3 yT_11_3 n gT gT_0 gT_2 gT_8 gT_10 gT_11 gT_11_1 gT_11_2 gT_11_3 q_1 hc_2 _) (cwV 0 hts (good_V q6_18 q6_20 q0_62 q1_1 q6_21) rfl rfl rfl (by decide +kernel) ⟨Nat.le_trans (Nat.le_of_ble_eq_true rfl) hR.1, Nat.le_trans (Nat.le_of_ble_eq_true rfl) hR.2⟩) (va_recv X.1 X.2.1 (ci := 11) (q0 := 0) rfl rfl) (X.1.sub (tys' := tX11 yT ++ (tTP yT_0 ++ (tX6 yT_2 ++ (tX4 yT_8 ++ (tX0 yT_10 ++ (tX5 yT_11 ++ (tX7 yT_11_1 ++ (tX2 yT_11_2 ++ (tX8 yT_11_3))))))))) [0, 1, 16, 17, 18, 19, 20, 21, 22, 23, 24, 25, 41, 42, 43, 44, 45, 46, 47, 48, 49, 50, 51, 52, 53, 54, 55, 56, 57, 58, 59, 60] rfl) (X.2.1.sub (ws' := wX11 hT aT yT gT ++ (wTP (aT 0) aT_0 yT_0 gT_0 ++ (wX6 (aT 2) aT_2 yT_2 gT_2 ++ (wX4 hT_8 aT_8 yT_8 gT_8 ++ (wX0 hT_10 aT_10 yT_10 gT_10 ++ (wX5 hT_11 (va_up aT_11 0 (aT 0)) yT_11 gT_11 ++ (wX7 ((va_up aT_11 0 (aT 0)) 1) (va_up (va_up aT_11_1 0 (aT 0)) 1 (aT 2)) yT_11_1 gT_11_1 ++ (wX2 ((va_up aT_11 0 (aT 0)) 2) (va_up aT_11_2 0 (aT 0)) yT_11_2 gT_11_2 ++ (wX8 ((va_up aT_11 0 (aT 0)) 3) aT_11_3 yT_11_3 gT_11_3))))))))) [0, 1, 2, 3, 20, 21, 22, 23, 24, 25, 26, 27, 28, 29, 30, 47, 48, 49, 50, 51, 52, 53, 54, 55, 56, 57, 58, 59, 60, 61, 62, 63, 64, 65, 66, 67, 68, 69, 70, 71] rfl) (X.2.2.1.sub (ws' := wX11 hT aT yT gT ++ (wTP (aT 0) aT_0 yT_0 gT_0 ++ (wX6 (aT 2) aT_2 yT_2 gT_2 ++ (wX4 hT_8 aT_8 yT_8 gT_8 ++ (wX0 hT_10 aT_10 yT_10 gT_10 ++ (wX5 hT_11 (va_up aT_11 0 (aT 0)) yT_11 gT_11 ++ (wX7 ((va_up aT_11 0 (aT 0)) 1) (va_up (va_up aT_11_1 0 (aT 0)) 1 (aT 2)) yT_11_1 gT_11_1 ++ (wX2 ((va_up aT_11 0 (aT 0)) 2) (va_up aT_11_2 0 (aT 0)) yT_11_2 gT_11_2 ++ (wX8 ((va_up aT_11 0 (aT 0)) 3) aT_11_3 yT_11_3 gT_11_3))))))))) [0, 1, 2, 3, 20, 21, 22, 23, 24, 25, 26, 27, 28, 29, 30, 47, 48, 49, 50, 51, 52, 53, 54, 55, 56, 57, 58, 59, 60, 61, 62, 63, 64, 65, 66, 67, 68, 69, 70, 71] (by decide) rfl) (free_of (wC := wX11 hT aT yT gT ++ (wTP (aT 0) aT_0 yT_0 gT_0 ++ (wX6 (aT 2) aT_2 yT_2 gT_2 ++ (wX4 hT_8 aT_8 yT_8 gT_8 ++ (wX0 hT_10 aT_10 yT_10 gT_10 ++ (wX5 hT_11 (va_up aT_11 0 (aT 0)) yT_11 gT_11 ++ (wX7 ((va_up aT_11 0 (aT 0)) 1) (va_up (va_up aT_11_1 0 (aT 0)) 1 (aT 2)) yT_11_1 gT_11_1 ++ (wX2 ((va_up aT_11 0 (aT 0)) 2) (va_up aT_11_2 0 (aT 0)) yT_11_2 gT_11_2 ++ (wX8 ((va_up aT_11 0 (aT 0)) 3) aT_11_3 yT_11_3 gT_11_3))))))))) (isC := [0, 1, 2, 3, 20, 21, 22, 23, 24, 25, 26, 27, 28, 29, 30, 47, 48, 49, 50, 51, 52, 53, 54, 55, 56, 57, 58, 59, 60, 61, 62, 63, 64, 65, 66, 67, 68, 69, 70, 71]) X rfl) hl.1 rfl rfl (Nat.le_of_ble_eq_true rfl) dX11_await_19 hcs (fun t H1 locs1 ht hB hk hS => ?_)
      have X : Hx D (tX11 yT ++ (tTP yT_0 ++ (tX6 yT_2 ++ (tX9 yT_3 ++ (tX1 yT_5 ++ (tX4 yT_8 ++ (tX0 yT_8_0 ++ (tX0 yT_10 ++ (tX5 yT_11 ++ (tX7 yT_11_1 ++ (tX2 yT_11_2 ++ (tX8 yT_11_3)))))))))))) A s H1 locs1 (wX11 hT aT yT q_1.1 ++ (wTP (aT 0) aT_0 yT_0 gT_0 ++ (wX6 (aT 2) aT_2 yT_2 gT_2 ++ (wX9 (aT 3) aT_3 yT_3 gT_3 ++ (wX1 (aT 5) (va_up (va_up aT_5 0 (aT 2)) 1 (aT 3)) yT_5 gT_5 ++ (wX4 hT_8 aT_8 yT_8 gT_8 ++ (wX0 (aT_8 0) aT_8_0 yT_8_0 gT_8_0 ++ (wX0 hT_10 aT_10 yT_10 q_1.2.1 ++ (wX5 hT_11 (va_up aT_11 0 (aT 0)) yT_11 q_1.2.2.1 ++ (wX7 ((va_up aT_11 0 (aT 0)) 1) (va_up (va_up aT_11_1 0 (aT 0)) 1 (aT 2)) yT_11_1 q_1.2.2.2.1 ++ (wX2 ((va_up aT_11 0 (aT 0)) 2) (va_up aT_11_2 0 (aT 0)) yT_11_2 q_1.2.2.2.2.1 ++ (wX8 ((va_up aT_11 0 (aT 0)) 3) aT_11_3 yT_11_3 q_1.2.2.2.2.2)))))))))))) := Hx_after (isC := [0, 1, 2, 3, 20, 21, 22, 23, 24, 25, 26, 27, 28, 29, 30, 47, 48, 49, 50, 51, 52, 53, 54, 55, 56, 57, 58, 59, 60, 61, 62, 63, 64, 65, 66, 67, 68, 69, 70, 71]) (isR := [4, 5, 6, 7, 8, 9, 10, 11, 12, 13, 14, 15, 16, 17, 18, 19, 31, 32, 33, 34, 35, 36, 37, 38, 39, 40, 41, 42, 43, 44, 45, 46]) (pm := [32, 33, 34, 35, 0, 1, 2, 3, 4, 5, 6, 7, 8, 9, 10, 11, 12, 13, 14, 15, 36, 37, 38, 39, 40, 41, 42, 43, 44, 45, 46, 16, 17, 18, 19, 20, 21, 22, 23, 24, 25, 26, 27, 28, 29, 30, 31, 47, 48, 49, 50, 51, 52, 53, 54, 55, 56, 57, 58, 59, 60, 61, 62, 63, 64, 65, 66, 67, 68, 69, 70, 71]) (wr := wX9 (aT 3) aT_3 yT_3 gT_3 ++ (wX1 (aT 5) (va_up (va_up aT_5 0 (aT 2)) 1 (aT 3)) yT_5 gT_5 ++ (wX0 (aT_8 0) aT_8_0 yT_8_0 gT_8_0))) X ⟨rfl, rfl, by decide, by decide, rfl, by decide⟩ ht hB hk hS
      clear hk hS ht hB
      generalize H1 = H at X ⊢
      generalize locs1 = locs at X ⊢
      exact (k_X11_await_22 l D hT aT yT aT_0 yT_0 aT_2 yT_2 aT_3 yT_3 aT_5 yT_5 hT_8 aT_8 yT_8 aT_8_0 yT_8_0 hT_10 aT_10 yT_10 hT_11 aT_11 yT_11 aT_11_1 yT_11_1 aT_11_2 yT_11_2 aT_11_3 yT_11_3 n (L_X11_await n hT_8 hT_10 hT_11 n) (kL_X11_await l D hT aT yT aT_0 yT_0 aT_2 yT_2 aT_3 yT_3 aT_5 yT_5 hT_8 aT_8 yT_8 aT_8_0 yT_8_0 hT_10 aT_10 yT_10 hT_11 aT_11 yT_11 aT_11_1 yT_11_1 aT_11_2 yT_11_2 aT_11_3 yT_11_3 n n)) hR hcs C X (lv_sub hl [0, 1] rfl) hF
    · replace hF := iF c hF
      exact (k_X11_await_11 l D hT aT yT aT_0 yT_0 aT_2 yT_2 aT_3 yT_3 aT_5 yT_5 hT_8 aT_8 yT_8 aT_8_0 yT_8_0 hT_10 aT_10 yT_10 hT_11 aT_11 yT_11 aT_11_1 yT_11_1 aT_11_2 yT_11_2 aT_11_3 yT_11_3 n (L_X11_await n hT_8 hT_10 hT_11 n) (kL_X11_await l D hT aT yT aT_0 yT_0 aT_2 yT_2 aT_3 yT_3 aT_5 yT_5 hT_8 aT_8 yT_8 aT_8_0 yT_8_0 hT_10 aT_10 yT_10 hT_11 aT_11 yT_11 aT_11_1 yT_11_1 aT_11_2 yT_11_2 aT_11_3 yT_11_3 n n)) hR hcs C X (lv_sub hl [0] rfl) hF

/-! ### X11_keep -/
theorem dX11_keep_0 : decode cX11_keep 0 = .ok (.iload_n 1, 1) := by decide +kernel
theorem dX11_keep_1 : decode cX11_keep 1 = .ok (.ifCond .lt 8, 3) := by decide +kernel
theorem dX11_keep_4 : decode cX11_keep 4 = .ok (.iload_n 1, 1) := by decide +kernel
theorem dX11_keep_5 : decode cX11_keep 5 = .ok (.iconst 4, 1) := by decide +kernel
theorem dX11_keep_6 : decode cX11_keep 6 = .ok (.if_icmp .lt 5, 3) := by decide +kernel
theorem dX11_keep_9 : decode cX11_keep 9 = .ok (.iconst 0, 1) := by decide +kernel
theorem dX11_keep_10 : decode cX11_keep 10 = .ok (.ireturn, 1) := by decide +kernel
theorem dX11_keep_11 : decode cX11_keep 11 = .ok (.aload_n 0, 1) := by decide +kernel
theorem dX11_keep_12 : decode cX11_keep 12 = .ok (.getfield 31, 3) := by decide +kernel
theorem dX11_keep_15 : decode cX11_keep 15 = .ok (.iload_n 1, 1) := by decide +kernel
theorem dX11_keep_16 : decode cX11_keep 16 = .ok (.aaload, 1) := by decide +kernel
theorem dX11_keep_17 : decode cX11_keep 17 = .ok (.astore_n 2, 1) := by decide +kernel
theorem dX11_keep_18 : decode cX11_keep 18 = .ok (.aload_n 2, 1) := by decide +kernel
theorem dX11_keep_19 : decode cX11_keep 19 = .ok (.ifnonnull 18, 3) := by decide +kernel
theorem dX11_keep_22 : decode cX11_keep 22 = .ok (.new 24, 3) := by decide +kernel
theorem dX11_keep_25 : decode cX11_keep 25 = .ok (.dup, 1) := by decide +kernel
theorem dX11_keep_26 : decode cX11_keep 26 = .ok (.invokespecial 26, 3) := by decide +kernel
theorem dX11_keep_29 : decode cX11_keep 29 = .ok (.astore_n 2, 1) := by decide +kernel
theorem dX11_keep_30 : decode cX11_keep 30 = .ok (.aload_n 0, 1) := by decide +kernel
theorem dX11_keep_31 : decode cX11_keep 31 = .ok (.getfield 31, 3) := by decide +kernel
theorem dX11_keep_34 : decode cX11_keep 34 = .ok (.iload_n 1, 1) := by decide +kernel
theorem dX11_keep_35 : decode cX11_keep 35 = .ok (.aload_n 2, 1) := by decide +kernel
theorem dX11_keep_36 : decode cX11_keep 36 = .ok (.aastore, 1) := by decide +kernel
theorem dX11_keep_37 : decode cX11_keep 37 = .ok (.aload_n 2, 1) := by decide +kernel
theorem dX11_keep_38 : decode cX11_keep 38 = .ok (.aload_n 0, 1) := by decide +kernel
theorem dX11_keep_39 : decode cX11_keep 39 = .ok (.getfield 27, 3) := by decide +kernel
theorem dX11_keep_42 : decode cX11_keep 42 = .ok (.invokevirtual 343, 3) := by decide +kernel
theorem dX11_keep_45 : decode cX11_keep 45 = .ok (.iconst 1, 1) := by decide +kernel
theorem dX11_keep_46 : decode cX11_keep 46 = .ok (.ireturn, 1) := by decide +kernel
abbrev R_X11_keep : Room := ({ frames := 2, cells := 0, slots := 0, locals := 85 } : Room)
def b_X11_keep_37 (hP9 : Nat) (gT : Gs) (gT_3 : Gs) (gT_4 : Gs) (gP9 : Gs) : Option (Int32 × Gs) :=
  bnd (f_X9_takeOver gP9 gT_3) (fun q_3 => some ((1 : Int32), q_3))
def f_X11_keep (hP9 : Nat) (gT : Gs) (gT_3 : Gs) (gT_4 : Gs) (gP9 : Gs) (x0 : Int32) : Option (Int32 × Gs) :=
  if x0 < 0 then (some ((0 : Int32), gP9)) else (if x0 < (4 : Int32) then (grd (inB x0 4) (grd (rEq (gR gT_4 x0.toNatClampNeg) hP9) (b_X11_keep_37 hP9 gT gT_3 gT_4 gP9))) else (some ((0 : Int32), gP9)))
def S_X11_keep_37 (l : Launch) (D : Dx) (hT : Nat) (aT : Nat → Nat) (yT : Nat → ClassId) (aT_3 : Nat → Nat) (yT_3 : Nat → ClassId) (aT_4 : Nat → Nat) (yT_4 : Nat → ClassId) (hP9 : Nat) (aP9 : Nat → Nat) (yP9 : Nat → ClassId) (fn : Gs → Gs → Gs → Gs → Option (Int32 × Gs)) : Prop :=
  ∀ {p : Program} {e : Env} {s : State} {m : MethodId} {args : Array Value} {below : List Frame} {meth : Method} {c : Code} {H : Heap} {locs : List Loc} {A : Nat → Prop} {ls : Array Slot} {R : Room} {cells slots : Nat} {gT : Gs} {gT_3 : Gs} {gT_4 : Gs} {gP9 : Gs} {q : Int32 × Gs}, (2 ≤ R.frames ∧ 85 ≤ R.locals) → (cells ≤ R.cells ∧ slots ≤ R.slots) → Cx p s m args meth c cX11_keep (some .boolean) 3 RX11 lw_all → Hx D (tX11 yT ++ (tX9 yT_3 ++ (tKP yT_4 ++ (tX9 yP9)))) A s H locs (wX11 hT aT yT gT ++ (wX9 (aT 3) aT_3 yT_3 gT_3 ++ (wKP (aT 4) aT_4 yT_4 gT_4 ++ (wX9 hP9 aP9 yP9 gP9)))) → lv_has ls 3 [(0, .ref hT), (2, .ref hP9)] → fn gT gT_3 gT_4 gP9 = some q → W p l e R s m args below meth c H locs cells slots (MQ below (QI D A (wX11 hT aT yT gT ++ (wX9 (aT 3) aT_3 yT_3 gT_3 ++ (wKP (aT 4) aT_4 yT_4 gT_4 ++ (wX9 hP9 aP9 yP9 q.2)))) q.1) args s cells slots A) (F0 m 37 ls [])
set_option maxHeartbeats 4000000 in
set_option maxRecDepth 100000 in
theorem k_X11_keep_37 (l : Launch) (D : Dx) (hT : Nat) (aT : Nat → Nat) (yT : Nat → ClassId) (aT_3 : Nat → Nat) (yT_3 : Nat → ClassId) (aT_4 : Nat → Nat) (yT_4 : Nat → ClassId) (hP9 : Nat) (aP9 : Nat → Nat) (yP9 : Nat → ClassId) : S_X11_keep_37 l D hT aT yT aT_3 yT_3 aT_4 yT_4 hP9 aP9 yP9 (b_X11_keep_37 hP9) := by
  intro p e s m args below meth c H locs A ls R cells slots gT gT_3 gT_4 gP9 q hR hcs C X hl hF
  obtain ⟨hx, hb, hr, hml, hown, hts, hlk⟩ := id C
  unfold b_X11_keep_37 at hF
  refine lv_aload_n hx hb dX11_keep_37 rfl (lv_at hl 1 rfl) ?_
  refine lv_aload_n hx hb dX11_keep_38 rfl (lv_at hl 0 rfl) ?_
  refine va_get (D := D.1) (ci := 11) (v := .ref (aT 3)) (C := RX11) (T := TX11) (N := 14) hx hb hts wi_X11 hown X.1 X.2.1 0 rfl rfl 3 (by decide) (hts _ q2_150) (fun _ h9 => h9) (fl_get (by decide)) dX11_keep_39 ?_
  obtain ⟨q_3, hc_4, hF⟩ := bnd_some hF
  refine cV_v (As := [.ref (aT 3)]) (rest := []) C X (c_X9_takeOver l D hP9 aP9 yP9 (aT 3) aT_3 yT_3 gP9 gT_3 q_3 hc_4 _) (cwV 1 hts (good_V q6_153 q6_154 q6_155 q1_3 q6_156) rfl rfl rfl (by decide +kernel) ⟨Nat.le_trans (Nat.le_of_ble_eq_true rfl) hR.1, Nat.le_trans (Nat.le_of_ble_eq_true rfl) hR.2⟩) (va_recv X.1 X.2.1 (ci := 9) (q0 := 15) rfl rfl) (X.1.sub (tys' := tX9 yP9 ++ (tX9 yT_3)) [13, 14, 15, 16, 17, 18, 19, 20, 21, 22, 23, 24, 0, 1, 2, 3, 4, 5, 6, 7, 8, 9, 10, 11] rfl) (X.2.1.sub (ws' := wX9 hP9 aP9 yP9 gP9 ++ (wX9 (aT 3) aT_3 yT_3 gT_3)) [15, 16, 17, 18, 19, 20, 21, 22, 23, 24, 25, 26, 27, 1, 2, 3, 4, 5, 6, 7, 8, 9, 10, 11, 12, 13] rfl) (X.2.2.1.sub (ws' := wX9 hP9 aP9 yP9 gP9 ++ (wX9 (aT 3) aT_3 yT_3 gT_3)) [15, 16, 17, 18, 19, 20, 21, 22, 23, 24, 25, 26, 27, 1, 2, 3, 4, 5, 6, 7, 8, 9, 10, 11, 12, 13] (by decide) rfl) (free_of (wC := wX9 hP9 aP9 yP9 gP9 ++ (wX9 (aT 3) aT_3 yT_3 gT_3)) (isC := [15, 16, 17, 18, 19, 20, 21, 22, 23, 24, 25, 26, 27, 1, 2, 3, 4, 5, 6, 7, 8, 9, 10, 11, 12, 13]) X rfl) hl.1 rfl rfl (Nat.le_of_ble_eq_true rfl) dX11_keep_42 hcs (fun t H1 locs1 ht hB hk hS => ?_)
  have X : Hx D (tX11 yT ++ (tX9 yT_3 ++ (tKP yT_4 ++ (tX9 yP9)))) A s H1 locs1 (wX11 hT aT yT gT ++ (wX9 (aT 3) aT_3 yT_3 gT_3 ++ (wKP (aT 4) aT_4 yT_4 gT_4 ++ (wX9 hP9 aP9 yP9 q_3)))) := Hx_after (isC := [15, 16, 17, 18, 19, 20, 21, 22, 23, 24, 25, 26, 27, 1, 2, 3, 4, 5, 6, 7, 8, 9, 10, 11, 12, 13]) (isR := [0, 14]) (pm := [0, 15, 16, 17, 18, 19, 20, 21, 22, 23, 24, 25, 26, 27, 1, 2, 3, 4, 5, 6, 7, 8, 9, 10, 11, 12, 13, 14]) (wr := wX11 hT aT yT gT ++ (wKP (aT 4) aT_4 yT_4 gT_4)) X ⟨rfl, rfl, by decide, by decide, rfl, by decide⟩ ht hB hk hS
  clear hk hS ht hB
  generalize H1 = H at X ⊢
  generalize locs1 = locs at X ⊢
  refine lv_iconst (v := (1 : Int32)) hx hb dX11_keep_45 (by decide) ?_
  have hq := Option.some.inj hF
  subst hq
  exact rt_z (v := (1 : Int32)) C X (by decide) dX11_keep_46
set_option maxHeartbeats 4000000 in
set_option maxRecDepth 100000 in
theorem c_X11_keep (l : Launch) (D : Dx) (hT : Nat) (aT : Nat → Nat) (yT : Nat → ClassId) (aT_3 : Nat → Nat) (yT_3 : Nat → ClassId) (aT_4 : Nat → Nat) (yT_4 : Nat → ClassId) (hP9 : Nat) (aP9 : Nat → Nat) (yP9 : Nat → ClassId) (gT : Gs) (gT_3 : Gs) (gT_4 : Gs) (gP9 : Gs) (x0 : Int32) (q : Int32 × Gs) (hF : f_X11_keep hP9 gT gT_3 gT_4 gP9 x0 = some q) (sz : Nat) : Met l yX11_keep (ws_ yX11_keep cX11_keep 3 (some .boolean)) R_X11_keep (PC D (tX11 yT ++ (tX9 yT_3 ++ (tKP yT_4 ++ (tX9 yP9)))) [.ref hT, .int x0] (wX11 hT aT yT gT ++ (wX9 (aT 3) aT_3 yT_3 gT_3 ++ (wKP (aT 4) aT_4 yT_4 gT_4 ++ (wX9 hP9 aP9 yP9 gP9)))) sz) (QI D (va_A (wX11 hT aT yT gT ++ (wX9 (aT 3) aT_3 yT_3 gT_3 ++ (wKP (aT 4) aT_4 yT_4 gT_4 ++ (wX9 hP9 aP9 yP9 gP9)))) sz) (wX11 hT aT yT gT ++ (wX9 (aT 3) aT_3 yT_3 gT_3 ++ (wKP (aT 4) aT_4 yT_4 gT_4 ++ (wX9 hP9 aP9 yP9 q.2)))) q.1) 0 0 (va_A (wX11 hT aT yT gT ++ (wX9 (aT 3) aT_3 yT_3 gT_3 ++ (wKP (aT 4) aT_4 yT_4 gT_4 ++ (wX9 hP9 aP9 yP9 gP9)))) sz) := by
  refine Met.ofW (cc := cX11_keep) (maxL := 3) (ret := (some .boolean)) (by decide) rfl ?_
  intro p e s m args below meth c s₁ B hml hv
  obtain ⟨rfl, hsz, hP, hK, hD, hN⟩ := hv
  subst hsz
  have C : Cx p s m _ meth c cX11_keep (some .boolean) 3 RX11 lw_all := Cx_of B hml
  have X := Hx_start hP hK hD hN
  obtain ⟨hx, hb, hr, -, hown, hts, hlk⟩ := id C
  generalize va_A (wX11 hT aT yT gT ++ (wX9 (aT 3) aT_3 yT_3 gT_3 ++ (wKP (aT 4) aT_4 yT_4 gT_4 ++ (wX9 hP9 aP9 yP9 gP9)))) s.heap.size = A at X ⊢
  have hl := lv_entry ([.ref hT, .int x0]) (n := 3) (Nat.le_of_ble_eq_true rfl)
  rw [lg_entry_eq]
  generalize (lg_sl ([.ref hT, .int x0]) ++ List.replicate (3 - (lg_sl ([.ref hT, .int x0])).length) Slot.unset).toArray = ls at hl ⊢
  have hl : lv_has ls 3 [(0, .ref hT), (1, .int x0)] := hl
  have hR : 2 ≤ R_X11_keep.frames ∧ 85 ≤ R_X11_keep.locals := ⟨Nat.le_of_ble_eq_true rfl, Nat.le_of_ble_eq_true rfl⟩
  have hcs : 0 ≤ R_X11_keep.cells ∧ 0 ≤ R_X11_keep.slots := ⟨Nat.le_of_ble_eq_true rfl, Nat.le_of_ble_eq_true rfl⟩
  unfold f_X11_keep at hF
  refine lv_iload_n hx hb dX11_keep_0 rfl (lv_at hl 1 rfl) ?_
  refine lv_if_lt (tgt := 9) hx hb dX11_keep_1 (by decide) (fun c => ?_) (fun c => ?_)
  · replace hF := iT c hF
    refine lv_iconst (v := (0 : Int32)) hx hb dX11_keep_9 (by decide) ?_
    have hq := Option.some.inj hF
    subst hq
    exact rt_z (v := (0 : Int32)) C X (by decide) dX11_keep_10
  · replace hF := iF c hF
    refine lv_iload_n hx hb dX11_keep_4 rfl (lv_at hl 1 rfl) ?_
    refine lv_iconst (v := (4 : Int32)) hx hb dX11_keep_5 (by decide) ?_
    refine lv_icmp_lt (tgt := 11) hx hb dX11_keep_6 (by decide) (fun c => ?_) (fun c => ?_)
    · replace hF := iT c hF
      refine lv_aload_n hx hb dX11_keep_11 rfl (lv_at hl 0 rfl) ?_
      refine va_get (D := D.1) (ci := 11) (v := .ref (aT 4)) (C := RX11) (T := TX11) (N := 14) hx hb hts wi_X11 hown X.1 X.2.1 0 rfl rfl 4 (by decide) (hts _ q2_151) (fun _ h9 => h9) (fl_get (by decide)) dX11_keep_12 ?_
      refine lv_iload_n hx hb dX11_keep_15 rfl (lv_at hl 1 rfl) ?_
      obtain ⟨h_1, hF⟩ := grd_some hF
      obtain ⟨h_2, hF⟩ := grd_some hF
      refine va_aldq (D := D.1) hx hb X.1 X.2.1 14 12 rfl rfl (inB_ok h_1) dX11_keep_16 ?_
      rw [rf_q h_2]
      refine lv_astore_n (lv' := [(2, .ref hP9), (0, .ref hT), (1, .int x0)]) hx hb dX11_keep_17 rfl hl (by decide) rfl (fun ls hl => ?_)
      refine lv_aload_n hx hb dX11_keep_18 rfl (lv_at hl 0 rfl) ?_
      refine lv_ifnonnull (tgt := 37) hx hb dX11_keep_19 (by decide) ?_
      exact (k_X11_keep_37 l D hT aT yT aT_3 yT_3 aT_4 yT_4 hP9 aP9 yP9) hR hcs C X (lv_sub hl [1, 0] rfl) hF
    · replace hF := iF c hF
      refine lv_iconst (v := (0 : Int32)) hx hb dX11_keep_9 (by decide) ?_
      have hq := Option.some.inj hF
      subst hq
      exact rt_z (v := (0 : Int32)) C X (by decide) dX11_keep_10

/-! ### X11_back -/
theorem dX11_back_0 : decode cX11_back 0 = .ok (.iload_n 1, 1) := by decide +kernel
theorem dX11_back_1 : decode cX11_back 1 = .ok (.ifCond .lt 8, 3) := by decide +kernel
theorem dX11_back_4 : decode cX11_back 4 = .ok (.iload_n 1, 1) := by decide +kernel
theorem dX11_back_5 : decode cX11_back 5 = .ok (.iconst 4, 1) := by decide +kernel
theorem dX11_back_6 : decode cX11_back 6 = .ok (.if_icmp .lt 5, 3) := by decide +kernel
theorem dX11_back_9 : decode cX11_back 9 = .ok (.iconst 0, 1) := by decide +kernel
theorem dX11_back_10 : decode cX11_back 10 = .ok (.ireturn, 1) := by decide +kernel
theorem dX11_back_11 : decode cX11_back 11 = .ok (.aload_n 0, 1) := by decide +kernel
theorem dX11_back_12 : decode cX11_back 12 = .ok (.getfield 31, 3) := by decide +kernel
theorem dX11_back_15 : decode cX11_back 15 = .ok (.iload_n 1, 1) := by decide +kernel
theorem dX11_back_16 : decode cX11_back 16 = .ok (.aaload, 1) := by decide +kernel
theorem dX11_back_17 : decode cX11_back 17 = .ok (.astore_n 2, 1) := by decide +kernel
theorem dX11_back_18 : decode cX11_back 18 = .ok (.aload_n 2, 1) := by decide +kernel
theorem dX11_back_19 : decode cX11_back 19 = .ok (.ifnull 17, 3) := by decide +kernel
theorem dX11_back_22 : decode cX11_back 22 = .ok (.aload_n 2, 1) := by decide +kernel
theorem dX11_back_23 : decode cX11_back 23 = .ok (.getfield 109, 3) := by decide +kernel
theorem dX11_back_26 : decode cX11_back 26 = .ok (.aload_n 0, 1) := by decide +kernel
theorem dX11_back_27 : decode cX11_back 27 = .ok (.getfield 27, 3) := by decide +kernel
theorem dX11_back_30 : decode cX11_back 30 = .ok (.getfield 109, 3) := by decide +kernel
theorem dX11_back_33 : decode cX11_back 33 = .ok (.if_icmp .eq 5, 3) := by decide +kernel
theorem dX11_back_36 : decode cX11_back 36 = .ok (.iconst 0, 1) := by decide +kernel
theorem dX11_back_37 : decode cX11_back 37 = .ok (.ireturn, 1) := by decide +kernel
theorem dX11_back_38 : decode cX11_back 38 = .ok (.aload_n 0, 1) := by decide +kernel
theorem dX11_back_39 : decode cX11_back 39 = .ok (.getfield 27, 3) := by decide +kernel
theorem dX11_back_42 : decode cX11_back 42 = .ok (.aload_n 2, 1) := by decide +kernel
theorem dX11_back_43 : decode cX11_back 43 = .ok (.invokevirtual 343, 3) := by decide +kernel
theorem dX11_back_46 : decode cX11_back 46 = .ok (.iconst 1, 1) := by decide +kernel
theorem dX11_back_47 : decode cX11_back 47 = .ok (.ireturn, 1) := by decide +kernel
abbrev R_X11_back : Room := ({ frames := 2, cells := 0, slots := 0, locals := 85 } : Room)
def f_X11_back (hP9 : Nat) (gT : Gs) (gT_3 : Gs) (gT_4 : Gs) (gP9 : Gs) (x0 : Int32) : Option (Int32 × Gs) :=
  if x0 < 0 then (some ((0 : Int32), gT_3)) else (if x0 < (4 : Int32) then (grd (inB x0 4) (grd (rEq (gR gT_4 x0.toNatClampNeg) hP9) (if (gI gP9 16) = (gI gT_3 16) then (bnd (f_X9_takeOver gT_3 gP9) (fun q_3 => some ((1 : Int32), q_3))) else (some ((0 : Int32), gT_3))))) else (some ((0 : Int32), gT_3)))
set_option maxHeartbeats 4000000 in
set_option maxRecDepth 100000 in
theorem c_X11_back (l : Launch) (D : Dx) (hT : Nat) (aT : Nat → Nat) (yT : Nat → ClassId) (aT_3 : Nat → Nat) (yT_3 : Nat → ClassId) (aT_4 : Nat → Nat) (yT_4 : Nat → ClassId) (hP9 : Nat) (aP9 : Nat → Nat) (yP9 : Nat → ClassId) (gT : Gs) (gT_3 : Gs) (gT_4 : Gs) (gP9 : Gs) (x0 : Int32) (q : Int32 × Gs) (hF : f_X11_back hP9 gT gT_3 gT_4 gP9 x0 = some q) (sz : Nat) : Met l yX11_back (ws_ yX11_back cX11_back 3 (some .boolean)) R_X11_back (PC D (tX11 yT ++ (tX9 yT_3 ++ (tKP yT_4 ++ (tX9 yP9)))) [.ref hT, .int x0] (wX11 hT aT yT gT ++ (wX9 (aT 3) aT_3 yT_3 gT_3 ++ (wKP (aT 4) aT_4 yT_4 gT_4 ++ (wX9 hP9 aP9 yP9 gP9)))) sz) (QI D (va_A (wX11 hT aT yT gT ++ (wX9 (aT 3) aT_3 yT_3 gT_3 ++ (wKP (aT 4) aT_4 yT_4 gT_4 ++ (wX9 hP9 aP9 yP9 gP9)))) sz) (wX11 hT aT yT gT ++ (wX9 (aT 3) aT_3 yT_3 q.2 ++ (wKP (aT 4) aT_4 yT_4 gT_4 ++ (wX9 hP9 aP9 yP9 gP9)))) q.1) 0 0 (va_A (wX11 hT aT yT gT ++ (wX9 (aT 3) aT_3 yT_3 gT_3 ++ (wKP (aT 4) aT_4 yT_4 gT_4 ++ (wX9 hP9 aP9 yP9 gP9)))) sz) := by
  refine Met.ofW (cc := cX11_back) (maxL := 3) (ret := (some .boolean)) (by decide) rfl ?_
  intro p e s m args below meth c s₁ B hml hv
  obtain ⟨rfl, hsz, hP, hK, hD, hN⟩ := hv
  subst hsz
  have C : Cx p s m _ meth c cX11_back (some .boolean) 3 RX11 lw_all := Cx_of B hml
  have X := Hx_start hP hK hD hN
  obtain ⟨hx, hb, hr, -, hown, hts, hlk⟩ := id C
  generalize va_A (wX11 hT aT yT gT ++ (wX9 (aT 3) aT_3 yT_3 gT_3 ++ (wKP (aT 4) aT_4 yT_4 gT_4 ++ (wX9 hP9 aP9 yP9 gP9)))) s.heap.size = A at X ⊢
  have hl := lv_entry ([.ref hT, .int x0]) (n := 3) (Nat.le_of_ble_eq_true rfl)
  rw [lg_entry_eq]
  generalize (lg_sl ([.ref hT, .int x0]) ++ List.replicate (3 - (lg_sl ([.ref hT, .int x0])).length) Slot.unset).toArray = ls at hl ⊢
  have hl : lv_has ls 3 [(0, .ref hT), (1, .int x0)] := hl
  have hR : 2 ≤ R_X11_back.frames ∧ 85 ≤ R_X11_back.locals := ⟨Nat.le_of_ble_eq_true rfl, Nat.le_of_ble_eq_true rfl⟩
  have hcs : 0 ≤ R_X11_back.cells ∧ 0 ≤ R_X11_back.slots := ⟨Nat.le_of_ble_eq_true rfl, Nat.le_of_ble_eq_true rfl⟩
  unfold f_X11_back at hF
  refine lv_iload_n hx hb dX11_back_0 rfl (lv_at hl 1 rfl) ?_
  refine lv_if_lt (tgt := 9) hx hb dX11_back_1 (by decide) (fun c => ?_) (fun c => ?_)
  · replace hF := iT c hF
    refine lv_iconst (v := (0 : Int32)) hx hb dX11_back_9 (by decide) ?_
    have hq := Option.some.inj hF
    subst hq
    exact rt_z (v := (0 : Int32)) C X (by decide) dX11_back_10
  · replace hF := iF c hF
    refine lv_iload_n hx hb dX11_back_4 rfl (lv_at hl 1 rfl) ?_
    refine lv_iconst (v := (4 : Int32)) hx hb dX11_back_5 (by decide) ?_
    refine lv_icmp_lt (tgt := 11) hx hb dX11_back_6 (by decide) (fun c => ?_) (fun c => ?_)
    · replace hF := iT c hF
      refine lv_aload_n hx hb dX11_back_11 rfl (lv_at hl 0 rfl) ?_
      refine va_get (D := D.1) (ci := 11) (v := .ref (aT 4)) (C := RX11) (T := TX11) (N := 14) hx hb hts wi_X11 hown X.1 X.2.1 0 rfl rfl 4 (by decide) (hts _ q2_151) (fun _ h9 => h9) (fl_get (by decide)) dX11_back_12 ?_
      refine lv_iload_n hx hb dX11_back_15 rfl (lv_at hl 1 rfl) ?_
      obtain ⟨h_1, hF⟩ := grd_some hF
      obtain ⟨h_2, hF⟩ := grd_some hF
      refine va_aldq (D := D.1) hx hb X.1 X.2.1 14 12 rfl rfl (inB_ok h_1) dX11_back_16 ?_
      rw [rf_q h_2]
      refine lv_astore_n (lv' := [(2, .ref hP9), (0, .ref hT), (1, .int x0)]) hx hb dX11_back_17 rfl hl (by decide) rfl (fun ls hl => ?_)
      refine lv_aload_n hx hb dX11_back_18 rfl (lv_at hl 0 rfl) ?_
      refine lv_ifnull hx hb dX11_back_19 ?_
      refine lv_aload_n hx hb dX11_back_22 rfl (lv_at hl 0 rfl) ?_
      refine va_getN (D := D.1) (ci := 9) (v := .int (gI gP9 16)) (C := RX9) (T := TX9) (N := 17) hx hb hts wi_X9 hown X.1 X.2.1 15 rfl rfl 16 (by decide) (X.2.2.2.2.2.1.use q1_92 rfl) (fun _ h9 => h9) (fl_get (by decide)) dX11_back_23 ?_
      refine lv_aload_n hx hb dX11_back_26 rfl (lv_at hl 1 rfl) ?_
      refine va_get (D := D.1) (ci := 11) (v := .ref (aT 3)) (C := RX11) (T := TX11) (N := 14) hx hb hts wi_X11 hown X.1 X.2.1 0 rfl rfl 3 (by decide) (hts _ q2_150) (fun _ h9 => h9) (fl_get (by decide)) dX11_back_27 ?_
      refine va_getN (D := D.1) (ci := 9) (v := .int (gI gT_3 16)) (C := RX9) (T := TX9) (N := 17) hx hb hts wi_X9 hown X.1 X.2.1 1 rfl rfl 16 (by decide) (X.2.2.2.2.2.1.use q1_92 rfl) (fun _ h9 => h9) (fl_get (by decide)) dX11_back_30 ?_
      refine lv_icmp_eq (tgt := 38) hx hb dX11_back_33 (by decide) (fun c => ?_) (fun c => ?_)
      · replace hF := iT c hF
        refine lv_aload_n hx hb dX11_back_38 rfl (lv_at hl 1 rfl) ?_
        refine va_get (D := D.1) (ci := 11) (v := .ref (aT 3)) (C := RX11) (T := TX11) (N := 14) hx hb hts wi_X11 hown X.1 X.2.1 0 rfl rfl 3 (by decide) (hts _ q2_150) (fun _ h9 => h9) (fl_get (by decide)) dX11_back_39 ?_
        refine lv_aload_n hx hb dX11_back_42 rfl (lv_at hl 0 rfl) ?_
        obtain ⟨q_3, hc_4, hF⟩ := bnd_some hF
        refine cV_v (As := [.ref hP9]) (rest := []) C X (c_X9_takeOver l D (aT 3) aT_3 yT_3 hP9 aP9 yP9 gT_3 gP9 q_3 hc_4 _) (cwV 1 hts (good_V q6_153 q6_154 q6_155 q1_3 q6_156) rfl rfl rfl (by decide +kernel) ⟨Nat.le_trans (Nat.le_of_ble_eq_true rfl) hR.1, Nat.le_trans (Nat.le_of_ble_eq_true rfl) hR.2⟩) (va_recv X.1 X.2.1 (ci := 9) (q0 := 1) rfl rfl) (X.1.sub (tys' := tX9 yT_3 ++ (tX9 yP9)) [0, 1, 2, 3, 4, 5, 6, 7, 8, 9, 10, 11, 13, 14, 15, 16, 17, 18, 19, 20, 21, 22, 23, 24] rfl) (X.2.1.sub (ws' := wX9 (aT 3) aT_3 yT_3 gT_3 ++ (wX9 hP9 aP9 yP9 gP9)) [1, 2, 3, 4, 5, 6, 7, 8, 9, 10, 11, 12, 13, 15, 16, 17, 18, 19, 20, 21, 22, 23, 24, 25, 26, 27] rfl) (X.2.2.1.sub (ws' := wX9 (aT 3) aT_3 yT_3 gT_3 ++ (wX9 hP9 aP9 yP9 gP9)) [1, 2, 3, 4, 5, 6, 7, 8, 9, 10, 11, 12, 13, 15, 16, 17, 18, 19, 20, 21, 22, 23, 24, 25, 26, 27] (by decide) rfl) (free_of (wC := wX9 (aT 3) aT_3 yT_3 gT_3 ++ (wX9 hP9 aP9 yP9 gP9)) (isC := [1, 2, 3, 4, 5, 6, 7, 8, 9, 10, 11, 12, 13, 15, 16, 17, 18, 19, 20, 21, 22, 23, 24, 25, 26, 27]) X rfl) hl.1 rfl rfl (Nat.le_of_ble_eq_true rfl) dX11_back_43 hcs (fun t H1 locs1 ht hB hk hS => ?_)
        have X : Hx D (tX11 yT ++ (tX9 yT_3 ++ (tKP yT_4 ++ (tX9 yP9)))) A s H1 locs1 (wX11 hT aT yT gT ++ (wX9 (aT 3) aT_3 yT_3 q_3 ++ (wKP (aT 4) aT_4 yT_4 gT_4 ++ (wX9 hP9 aP9 yP9 gP9)))) := Hx_after (isC := [1, 2, 3, 4, 5, 6, 7, 8, 9, 10, 11, 12, 13, 15, 16, 17, 18, 19, 20, 21, 22, 23, 24, 25, 26, 27]) (isR := [0, 14]) (pm := [0, 2, 3, 4, 5, 6, 7, 8, 9, 10, 11, 12, 13, 14, 1, 15, 16, 17, 18, 19, 20, 21, 22, 23, 24, 25, 26, 27]) (wr := wX11 hT aT yT gT ++ (wKP (aT 4) aT_4 yT_4 gT_4)) X ⟨rfl, rfl, by decide, by decide, rfl, by decide⟩ ht hB hk hS
        clear hk hS ht hB
        generalize H1 = H at X ⊢
        generalize locs1 = locs at X ⊢
        refine lv_iconst (v := (1 : Int32)) hx hb dX11_back_46 (by decide) ?_
        have hq := Option.some.inj hF
        subst hq
        exact rt_z (v := (1 : Int32)) C X (by decide) dX11_back_47
      · replace hF := iF c hF
        refine lv_iconst (v := (0 : Int32)) hx hb dX11_back_36 (by decide) ?_
        have hq := Option.some.inj hF
        subst hq
        exact rt_z (v := (0 : Int32)) C X (by decide) dX11_back_37
    · replace hF := iF c hF
      refine lv_iconst (v := (0 : Int32)) hx hb dX11_back_9 (by decide) ?_
      have hq := Option.some.inj hF
      subst hq
      exact rt_z (v := (0 : Int32)) C X (by decide) dX11_back_10
